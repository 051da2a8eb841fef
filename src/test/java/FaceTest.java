import java.lang.reflect.Constructor;
import java.lang.reflect.Field;
import java.lang.reflect.Method;
import java.lang.reflect.Modifier;
import java.util.Arrays;
import java.util.Set;
import java.util.TreeSet;

/** The public face, as the document lists it, and nothing beside it. */
public final class FaceTest {
    private static final String FACE = "int feed(int int int int int)\nint text(int)\nint fault(int)\nint named(int int)\n"
            + "int tin(int int)\nint kind(int int)\nint want(int int)\nint top(int)\nlong law(int int int)\nint open(int)\n"
            + "boolean put(int int)\nint dent(int)\nint find(int)\nint go(int)\nint ahead(int int)\nint above(int)\n"
            + "int order(int)\nint best(int int)\nint tidy(int)\nint rests(int)\nint rest(int int)\nlong whole(int int)\n"
            + "int unmet()\nint blows(int)\nint note(int int boolean)\nint see(int int boolean)\nint strike(int)\n"
            + "boolean known(int)\nint which()\nint ask(int)\nint dented(int)\nint chance(int int int)\n"
            + "int tried(int int int)\nint undo()\nint keep()\nint back()\nint count(int)";

    public static void main(String[] args) {
        Set<String> due = new TreeSet<>(Arrays.asList(FACE.split("\n")));
        Set<String> has = new TreeSet<>();
        Set<String> names = new TreeSet<>();
        for (Method method : TinNation.class.getDeclaredMethods()) {
            if (!Modifier.isPrivate(method.getModifiers())) {
                Check.due(method + " is public", true, Modifier.isPublic(method.getModifiers()));
                StringBuilder call = new StringBuilder(method.getReturnType() + " " + method.getName() + "(");
                for (Class<?> type : method.getParameterTypes()) {
                    call.append(call.charAt(call.length() - 1) == '(' ? "" : " ").append(type);
                }
                has.add(call + ")");
                names.add(method.getName());
            }
        }
        due.stream().filter(call -> !has.contains(call)).forEach(call -> Check.due("there is " + call, true, false));
        has.stream().filter(call -> !due.contains(call)).forEach(call -> Check.due("there is " + call, false, true));
        Check.due("so many calls", 37, has.size());
        for (Class<?> type : TinNation.class.getDeclaredClasses()) {
            Check.due(type + " is static", true, Modifier.isStatic(type.getModifiers()));
            Check.due(type + " is public", false, Modifier.isPublic(type.getModifiers()));
            privateNames(type, names);
        }
        privateNames(TinNation.class, names);
        for (Field field : TinNation.class.getDeclaredFields()) {
            Check.due(field + " is private", !field.getName().equals("NONE"), Modifier.isPrivate(field.getModifiers()));
        }
        Check.due("final", true, Modifier.isFinal(TinNation.class.getModifiers()));
        Check.due("NONE", -1, TinNation.NONE);
        Constructor<?>[] constructors = TinNation.class.getDeclaredConstructors();
        Check.due("one constructor", 1, constructors.length);
        Check.due("public", true, Modifier.isPublic(constructors[0].getModifiers()));
        Check.due("of nothing", 0, constructors[0].getParameterCount());
        Check.end("FaceTest");
    }

    /** No method that isn't of the face bears the name of one that is; static fields are final. */
    private static void privateNames(Class<?> type, Set<String> names) {
        for (Method method : type.getDeclaredMethods()) {
            boolean isFace = type == TinNation.class && Modifier.isPublic(method.getModifiers());
            Check.due(method + " has a name of the face", false, !isFace && names.contains(method.getName()));
        }
        for (Field field : type.getDeclaredFields()) {
            boolean isStatic = Modifier.isStatic(field.getModifiers());
            Check.due(field + " is final if static", true, !isStatic || Modifier.isFinal(field.getModifiers()));
        }
    }
}
