import java.lang.reflect.Constructor;
import java.lang.reflect.Field;
import java.lang.reflect.Method;
import java.lang.reflect.Modifier;
import java.nio.file.Files;
import java.nio.file.Path;
import java.util.Arrays;
import java.util.List;
import java.util.TreeSet;
import java.util.regex.Matcher;
import java.util.regex.Pattern;
import java.util.stream.Collectors;

/** The public face, member by member, and those rules of LANGUAGE.md that can be seen from outside. */
public final class FaceTest {
    private static final Path SOURCE = Path.of("src/main/java/CarpetLane.java");
    private static final String FACE = "air 1 list 3 listed 1 carpet 2 of 2 change 3 under 3 beat 2 who 1 go 1 now 1 ahead 3 haze 1 "
        + "comes 2 dusty 2 clean 2 worn 2 forceFor 3 turnFor 2 kindFor 2 shut 3 cover 1 fits 2 kinds 2 spring 1 odds 3 seed 1 "
        + "feed 2 wipe 0 text 0 hold 2 as 2 sheet 3 write 3 copy 5 load 1 judge 1 image 0 undo 0 tear 0 count 1 status 1";
    private static final List<String> WORDS_RULED_OUT = List.of("throw", "throws", "try", "catch", "synchronized", "assert",
        "import", "package", "protected", "native", "volatile", "transient", "Random", "Thread", "Object", "Exception");

    private static int wrong = 0;

    private static void must(boolean holds, String what) {
        if (holds) return;
        wrong++;
        System.out.println("it must hold: " + what);
    }

    public static void main(String[] args) throws Exception {
        TreeSet<String> names = faceIsWhole();
        for (Class<?> inside : CarpetLane.class.getDeclaredClasses()) insideIsInOrder(inside, names);
        fieldsAreInOrder(CarpetLane.class);
        must(CarpetLane.class.getDeclaredClasses().length < 12, "at most twelve classes");
        sourceIsInOrder();
        System.out.println(wrong == 0 ? "the face is as told" : wrong + " rules are broken");
        if (wrong != 0) System.exit(1);
    }

    private static TreeSet<String> faceIsWhole() {
        Class<?> c = CarpetLane.class;
        must(Modifier.isPublic(c.getModifiers()) && Modifier.isFinal(c.getModifiers()), "the class is public and final");
        Constructor<?>[] made = c.getDeclaredConstructors();
        must(made.length == 1 && Modifier.isPublic(made[0].getModifiers()) && made[0].getParameterCount() == 0, "one public constructor");
        TreeSet<String> due = new TreeSet<>();
        TreeSet<String> names = new TreeSet<>();
        String[] words = FACE.split(" ");
        for (int i = 0; i < words.length; i += 2) {
            String parameters = String.join(", ", java.util.Collections.nCopies(Integer.parseInt(words[i + 1]), "int"));
            due.add((words[i].equals("odds") ? "long " : "int ") + words[i] + "(" + parameters + ")");
            names.add(words[i]);
        }
        must(due.size() == 42, "42 methods are told");
        TreeSet<String> got = new TreeSet<>();
        for (Method m : c.getDeclaredMethods()) {
            if (Modifier.isPrivate(m.getModifiers())) {
                must(!names.contains(m.getName()), "no private method bears the name " + m.getName());
                continue;
            }
            must(Modifier.isPublic(m.getModifiers()) && !Modifier.isStatic(m.getModifiers()), m + " is public");
            String parameters = Arrays.stream(m.getParameterTypes()).map(Class::getName).collect(Collectors.joining(", "));
            got.add(m.getReturnType().getName() + " " + m.getName() + "(" + parameters + ")");
        }
        must(got.equals(due), "the public methods are " + due + ", but they are " + got);
        return names;
    }

    private static void insideIsInOrder(Class<?> inside, TreeSet<String> names) {
        int m = inside.getModifiers();
        must(Modifier.isStatic(m) && !Modifier.isPublic(m) && !Modifier.isProtected(m), inside + " is static and not public");
        for (Method method : inside.getDeclaredMethods()) {
            must(!names.contains(method.getName()), inside + " has no method named " + method.getName());
            must(method.getParameterCount() <= 7, method + " takes at most seven");
        }
        for (Field f : inside.getDeclaredFields()) {
            must(!Modifier.isStatic(f.getModifiers()) || Modifier.isFinal(f.getModifiers()), f + " is final if static");
        }
    }

    private static void fieldsAreInOrder(Class<?> c) {
        for (Field f : c.getDeclaredFields()) {
            must(Modifier.isPrivate(f.getModifiers()), f + " is private");
            must(!Modifier.isStatic(f.getModifiers()) || Modifier.isFinal(f.getModifiers()), f + " is final if static");
        }
    }

    private static void sourceIsInOrder() throws Exception {
        String source = Files.readString(SOURCE);
        String code = source.replaceAll("//[^\n]*", "").replaceAll("\"[^\"\n]*\"", "\"\"");
        for (String word : WORDS_RULED_OUT) {
            must(!Pattern.compile("\\b" + word + "\\b").matcher(code).find(), "the word " + word + " isn't used");
        }
        must(!code.contains("->") && !code.contains("::"), "no lambda and no method reference");
        Matcher library = Pattern.compile("\\b(System|Arrays|Math|Integer|Long)\\.(\\w+)").matcher(code);
        List<String> allowed = List.of("System.arraycopy", "Math.min", "Math.max", "Math.floorMod", "Integer.bitCount", "Integer.highestOneBit");
        while (library.find()) must(allowed.contains(library.group()), library.group() + " is of the library");
        Matcher method = Pattern.compile("(?m)^( {4}| {8})\\S[^\n;=]*\\) \\{\n(.*?)^\\1\\}", Pattern.DOTALL | Pattern.MULTILINE).matcher(code);
        while (method.find()) {
            long lines = method.group(2).lines().count();
            must(lines <= 60, "short: " + method.group().lines().findFirst().get());
        }
    }
}
