import java.lang.reflect.Member;
import java.lang.reflect.Modifier;
import java.nio.file.Files;
import java.nio.file.Path;
import java.util.ArrayList;
import java.util.Arrays;
import java.util.List;
import java.util.regex.Matcher;
import java.util.regex.Pattern;

/** The public face, the constants, and the rules of LANGUAGE.md that a text search can see. */
public final class FaceTest {
    private static final String[] FACE = {
        "type(int)", "clear()", "town()", "street(int,int)", "citizen(int,int)",
        "does(int,int,int)", "wills(int)", "moves(int,int)", "night(int)", "undo()", "now(int)",
        "widest(int,int)", "way(int,int,int)", "flow(int,int,int)", "need(int,int,int)",
        "odds(int,int,int,int)", "carriage(int)", "measures(int,int)", "forget()", "deeds(int)",
        "when()", "mark(int,int)", "keep(int)", "back(int)", "count(int)", "trace()",
    };
    private static final String[] OUTSIDE = {
        "\\bthrow\\b", "\\bthrows\\b", "\\btry\\b", "\\bcatch\\b", "\\bsynchronized\\b",
        "\\bassert\\b", "->", "::", "\\bprotected\\b", "^package\\b", "\\bSystem\\.(?!arraycopy)",
        "\\bArrays\\.(?!fill|copyOf)", "\\bInteger\\.(?!bitCount)", "\\bMath\\.(?!max|min)",
        "\\bRandom\\b", "\\bThread\\b", "\\bstatic\\s*\\{", "\\bnull\\b", "\\bfloat\\b", "\\bdouble\\b",
        "^import (?!java\\.util\\.Arrays;)",
    };

    public static void main(String[] args) throws Exception {
        constants();
        members();
        parameters(KindStreets.class);
        fields(KindStreets.class);
        source();
        order();
        lengths();
        Check.end();
    }

    private static void constants() throws Exception {
        String[] names = {"BAD", "STATE", "FULL", "NONE", "NO"};
        int[] due = {-1, -2, -3, -9, -1000000};
        for (int i = 0; i < names.length; i++) {
            Check.due(names[i], KindStreets.class.getField(names[i]).getInt(null), due[i]);
        }
    }

    private static void members() {
        Check.due("a final class", KindStreets.class.getModifiers(), Modifier.PUBLIC | Modifier.FINAL);
        Check.due("public constructors", KindStreets.class.getConstructors().length, 1);
        Check.due("visible fields", visible(KindStreets.class.getDeclaredFields()).size(), 5);
        Check.due("visible methods", visible(KindStreets.class.getDeclaredMethods()).size(), FACE.length);
        List<String> face = new ArrayList<>();
        List<String> hidden = new ArrayList<>();
        for (var method : KindStreets.class.getDeclaredMethods()) {
            String types = Arrays.toString(method.getParameterTypes()).replaceAll("[\\[\\] ]", "");
            face.add(method.getReturnType() + " " + method.getName() + "(" + types + ")");
            if (!Modifier.isPublic(method.getModifiers())) {
                hidden.add(method.getName());
            }
        }
        for (String due : FACE) {
            String answer = due.equals("trace()") ? "long " : "int ";
            Check.due("the face has " + due, face.contains(answer + due) ? 1 : 0, 1);
            String name = due.substring(0, due.indexOf('('));
            Check.due("no private " + name, hidden.contains(name) ? 1 : 0, 0);
        }
        for (Class<?> inside : KindStreets.class.getDeclaredClasses()) {
            Check.due("static: " + inside, inside.getModifiers() & Modifier.STATIC, Modifier.STATIC);
            Check.due("fields of " + inside, inside.getDeclaredFields().length <= 20 ? 1 : 0, 1);
        }
        Check.due("some twelve classes", KindStreets.class.getDeclaredClasses().length < 12 ? 1 : 0, 1);
    }

    private static void parameters(Class<?> of) {
        for (var method : of.getDeclaredMethods()) {
            Check.due("parameters of " + method, method.getParameterCount() <= 7 ? 1 : 0, 1);
        }
        for (Class<?> inside : of.getDeclaredClasses()) {
            parameters(inside);
        }
    }

    /** Static fields are numbers that stay, others numbers, rows of them, or of the class's own. */
    private static void fields(Class<?> of) {
        for (var field : of.getDeclaredFields()) {
            int modifiers = field.getModifiers();
            boolean isNumber = field.getType() == int.class || field.getType() == long.class;
            boolean isOwn = field.getType() == int[].class || field.getType().getName().contains("KindStreets");
            Check.due("the type of " + field, isNumber || isOwn ? 1 : 0, 1);
            if (Modifier.isStatic(modifiers)) {
                Check.due("a constant: " + field, Modifier.isFinal(modifiers) && isNumber ? 1 : 0, 1);
            } else if (isOwn) {
                Check.due("made once: " + field, Modifier.isFinal(modifiers) ? 1 : 0, 1);
            }
        }
        for (Class<?> inside : of.getDeclaredClasses()) {
            fields(inside);
        }
    }

    private static List<Member> visible(Member[] members) {
        List<Member> visible = new ArrayList<>();
        for (Member member : members) {
            if (!Modifier.isPrivate(member.getModifiers())) {
                visible.add(member);
            }
        }
        return visible;
    }

    private static String text() throws Exception {
        return Files.readString(Path.of("src/main/java/KindStreets.java"));
    }

    /** The public calls stand in the document's order. */
    private static void order() throws Exception {
        Matcher calls = Pattern.compile("^    public \\w+ (\\w+)\\((.*)\\) \\{$", Pattern.MULTILINE).matcher(text());
        List<String> found = new ArrayList<>();
        while (calls.find()) {
            found.add(calls.group(1) + "(" + calls.group(2).replaceAll("int \\w+", "int").replace(" ", "") + ")");
        }
        Check.same("the order of the calls", found.toString(), Arrays.asList(FACE).toString());
    }

    /** From a method's first line to the brace that stands as deep as it. */
    private static void lengths() throws Exception {
        Matcher methods = Pattern.compile("^( {4}| {8})(?!private static (?:final )?class)[a-zA-Z].*\\) \\{\n(?:.*\n)*?\\1\\}$",
            Pattern.MULTILINE).matcher(text());
        int many = 0;
        while (methods.find()) {
            String method = methods.group();
            Check.due("some sixty lines: " + method.split("\n")[0].trim(), method.split("\n").length <= 60 ? 1 : 0, 1);
            many++;
        }
        Check.due("methods were found", many > FACE.length ? 1 : 0, 1);
    }

    private static void source() throws Exception {
        String source = text();
        for (int i = 0; i < source.length(); i++) {
            if (source.charAt(i) > 127) {
                Check.due("the sign at " + i, source.charAt(i), '?');
            }
        }
        String code = source.replaceAll("(?s)/\\*.*?\\*/", "").replaceAll("//[^\n]*", "");
        for (String outside : OUTSIDE) {
            Matcher found = Pattern.compile(outside, Pattern.MULTILINE).matcher(code);
            Check.due("the source has " + outside, found.find() ? 1 : 0, 0);
        }
    }
}
