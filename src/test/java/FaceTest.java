import java.lang.reflect.Member;
import java.lang.reflect.Modifier;
import java.nio.file.Files;
import java.nio.file.Path;
import java.util.ArrayList;
import java.util.Arrays;
import java.util.List;
import java.util.regex.Matcher;
import java.util.regex.Pattern;

/** The public face, the constants, and the rules of LANGUAGE.md that a text search can see. */
public final class FaceTest {
    private static final String[] FACE = {
        "type(int)", "clear()", "town()", "street(int,int)", "citizen(int,int)",
        "does(int,int,int)", "wills(int)", "moves(int,int)", "night(int)", "undo()", "now(int)",
        "widest(int,int)", "way(int,int,int)", "flow(int,int,int)", "need(int,int,int)",
        "odds(int,int,int,int)", "carriage(int)", "measures(int,int)", "forget()", "deeds(int)",
        "when()", "mark(int,int)", "keep(int)", "back(int)", "count(int)", "trace()",
    };
    private static final String[] OUTSIDE = {
        "\\bthrow\\b", "\\bthrows\\b", "\\btry\\b", "\\bcatch\\b", "\\bsynchronized\\b",
        "\\bassert\\b", "->", "::", "\\bprotected\\b", "^package\\b", "\\bSystem\\.(?!arraycopy)",
        "\\bArrays\\.(?!fill|copyOf)", "\\bInteger\\.(?!bitCount)", "\\bMath\\.(?!max|min)",
        "\\bRandom\\b", "\\bThread\\b", "\\bstatic\\s*\\{", "\\bnull\\b", "\\bfloat\\b", "\\bdouble\\b",
        "^import (?!java\\.util\\.Arrays;)",
    };

    public static void main(String[] args) throws Exception {
        constants();
        members();
        parameters(KindStreets.class);
        source();
        Check.end();
    }

    private static void constants() throws Exception {
        String[] names = {"BAD", "STATE", "FULL", "NONE", "NO"};
        int[] due = {-1, -2, -3, -9, -1000000};
        for (int i = 0; i < names.length; i++) {
            Check.due(names[i], KindStreets.class.getField(names[i]).getInt(null), due[i]);
        }
    }

    private static void members() {
        Check.due("a final class", KindStreets.class.getModifiers(), Modifier.PUBLIC | Modifier.FINAL);
        Check.due("public constructors", KindStreets.class.getConstructors().length, 1);
        Check.due("visible fields", visible(KindStreets.class.getDeclaredFields()).size(), 5);
        Check.due("visible methods", visible(KindStreets.class.getDeclaredMethods()).size(), FACE.length);
        List<String> face = new ArrayList<>();
        List<String> hidden = new ArrayList<>();
        for (var method : KindStreets.class.getDeclaredMethods()) {
            String types = Arrays.toString(method.getParameterTypes()).replaceAll("[\\[\\] ]", "");
            face.add(method.getReturnType() + " " + method.getName() + "(" + types + ")");
            if (!Modifier.isPublic(method.getModifiers())) {
                hidden.add(method.getName());
            }
        }
        for (String due : FACE) {
            String answer = due.equals("trace()") ? "long " : "int ";
            Check.due("the face has " + due, face.contains(answer + due) ? 1 : 0, 1);
            String name = due.substring(0, due.indexOf('('));
            Check.due("no private " + name, hidden.contains(name) ? 1 : 0, 0);
        }
        for (Class<?> inside : KindStreets.class.getDeclaredClasses()) {
            Check.due("static: " + inside, inside.getModifiers() & Modifier.STATIC, Modifier.STATIC);
            Check.due("fields of " + inside, inside.getDeclaredFields().length <= 20 ? 1 : 0, 1);
        }
        Check.due("some twelve classes", KindStreets.class.getDeclaredClasses().length < 12 ? 1 : 0, 1);
    }

    private static void parameters(Class<?> of) {
        for (var method : of.getDeclaredMethods()) {
            Check.due("parameters of " + method, method.getParameterCount() <= 7 ? 1 : 0, 1);
        }
        for (Class<?> inside : of.getDeclaredClasses()) {
            parameters(inside);
        }
    }

    private static List<Member> visible(Member[] members) {
        List<Member> visible = new ArrayList<>();
        for (Member member : members) {
            if (!Modifier.isPrivate(member.getModifiers())) {
                visible.add(member);
            }
        }
        return visible;
    }

    private static void source() throws Exception {
        String source = Files.readString(Path.of("src/main/java/KindStreets.java"));
        for (int i = 0; i < source.length(); i++) {
            if (source.charAt(i) > 127) {
                Check.due("the sign at " + i, source.charAt(i), '?');
            }
        }
        String code = source.replaceAll("(?s)/\\*.*?\\*/", "").replaceAll("//[^\n]*", "");
        for (String outside : OUTSIDE) {
            Matcher found = Pattern.compile(outside, Pattern.MULTILINE).matcher(code);
            Check.due("the source has " + outside, found.find() ? 1 : 0, 0);
        }
    }
}
