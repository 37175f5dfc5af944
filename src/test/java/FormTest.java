import java.lang.reflect.Constructor;
import java.lang.reflect.Field;
import java.lang.reflect.Method;
import java.lang.reflect.Modifier;
import java.nio.file.Files;
import java.nio.file.Path;
import java.util.ArrayList;
import java.util.List;
import java.util.Set;
import java.util.TreeSet;
import java.util.regex.Matcher;
import java.util.regex.Pattern;

/** The class's face is the document's, and its source keeps to what LANGUAGE.md leaves, as far as words tell. */
public final class FormTest {
    private static final Check check = new Check();
    private static final Path SOURCE = Path.of("src/main/java/TugRope.java");
    private static final String[] FACE = {"feed 5", "end 1", "rope 0", "rule 0", "force 1", "puller 2", "ribbon 0",
        "heave 0", "send 1", "front 1", "breath 2", "set 1", "undo 0", "fair 1", "swings 1", "shares 1", "fewest 1",
        "needed 0", "ahead 3", "over 1", "row 3", "trade 2", "out 2", "strengths 2", "winds 2", "rests 4", "alike 1",
        "pence 2", "note 2", "ruled 1", "look 1", "seed 1", "rain 4", "count 1", "image 1", "back 1"};
    private static final String[] RULED_OUT = {"throw", "throws", "try", "catch", "finally", "synchronized", "assert",
        "protected", "volatile", "transient", "native", "strictfp", "package", "Object", "Exact\\w*", "Random", "Thread",
        "Map", "Set", "hashCode", "toString", "double", "float", "var", "yield"};

    public static void main(String[] args) throws Exception {
        face();
        words();
        lengths();
        check.close("FormTest");
    }

    private static void wrong(String what) {
        check.is(what, 1, 0);
    }

    private static void face() throws Exception {
        Set<String> due = new TreeSet<>(List.of(FACE));
        Set<String> names = new TreeSet<>();
        for (String one : FACE) {
            names.add(one.split(" ")[0]);
        }
        Set<String> found = new TreeSet<>();
        for (Method m : TugRope.class.getDeclaredMethods()) {
            if (Modifier.isPublic(m.getModifiers())) {
                boolean ints = m.getReturnType() == int.class && !Modifier.isStatic(m.getModifiers());
                for (Class<?> c : m.getParameterTypes()) {
                    ints &= c == int.class;
                }
                found.add(m.getName() + " " + m.getParameterCount() + (ints ? "" : " not as told"));
            } else if (!Modifier.isPrivate(m.getModifiers()) || names.contains(m.getName())) {
                wrong("method " + m.getName());
            }
        }
        if (!due.equals(found)) {
            wrong("face " + found);
        }
        for (Field f : TugRope.class.getDeclaredFields()) {
            if (!Modifier.isPrivate(f.getModifiers()) && !f.getName().equals("NONE")) {
                wrong("field " + f.getName());
            }
        }
        Constructor<?>[] constructors = TugRope.class.getDeclaredConstructors();
        check.is("constructors", constructors.length, 1);
        check.is("constructor public", constructors[0].getModifiers(), Modifier.PUBLIC);
        check.is("class", TugRope.class.getModifiers(), Modifier.PUBLIC | Modifier.FINAL);
        check.is("classes at most twelve", TugRope.class.getDeclaredClasses().length <= 12 ? 1 : 0, 1);
        for (Class<?> c : TugRope.class.getDeclaredClasses()) {
            inner(c, names);
        }
    }

    private static void inner(Class<?> c, Set<String> names) {
        if (!Modifier.isStatic(c.getModifiers())) {
            wrong("class " + c.getName() + " is not static");
        }
        int fields = 0;
        for (Field f : c.getDeclaredFields()) {
            fields += Modifier.isStatic(f.getModifiers()) ? 0 : 1;
            if (Modifier.isStatic(f.getModifiers()) && !Modifier.isFinal(f.getModifiers())) {
                wrong("static field " + f.getName());
            }
        }
        check.is(c.getName() + " has at most twenty fields", fields <= 20 ? 1 : 0, 1);
        for (Method m : c.getDeclaredMethods()) {
            if (names.contains(m.getName())) {
                wrong("method " + c.getName() + "." + m.getName());
            }
            if (m.getParameterCount() > 7) {
                wrong("parameters of " + m.getName());
            }
        }
    }

    /** The source without comments and without what stands in quotes. */
    private static String bare() throws Exception {
        String source = Files.readString(SOURCE);
        String noComments = source.replaceAll("(?s)/\\*.*?\\*/", "").replaceAll("//[^\n]*", "");
        return noComments.replaceAll("\"[^\"\n]*\"", "\"\"").replaceAll("'[^'\n]*'", "' '");
    }

    private static void words() throws Exception {
        String bare = bare();
        for (String word : RULED_OUT) {
            Matcher m = Pattern.compile("\\b" + word + "\\b").matcher(bare);
            if (m.find()) {
                wrong("word " + m.group());
            }
        }
        for (String sign : new String[] {"->", "::", "@", "..."}) {
            if (bare.contains(sign)) {
                wrong("sign " + sign);
            }
        }
        check.is("only ASCII", Files.readString(SOURCE).chars().filter(c -> c > 126).count(), 0);
        Matcher imports = Pattern.compile("import ([^;]*);").matcher(bare);
        while (imports.find()) {
            if (!imports.group(1).equals("java.util.Arrays")) {
                wrong("import " + imports.group(1));
            }
        }
    }

    private static void lengths() throws Exception {
        List<String> lines = new ArrayList<>(List.of(bare().split("\n")));
        Pattern head = Pattern.compile("^ {4}( {4})?(public |private |static |final )*[\\w\\[\\]]+( \\w+)?\\(.*\\{$");
        for (int i = 0; i < lines.size(); i++) {
            if (head.matcher(lines.get(i)).matches()) {
                String indent = lines.get(i).substring(0, lines.get(i).indexOf(lines.get(i).trim()));
                int end = i;
                while (!lines.get(end).equals(indent + "}")) {
                    end++;
                }
                if (end - i > 60) {
                    wrong("length of " + lines.get(i).trim());
                }
            }
        }
    }
}
