import java.lang.reflect.Field;
import java.lang.reflect.Method;
import java.lang.reflect.Modifier;
import java.util.ArrayList;
import java.util.List;

/** Promise 1, the constant, and the members of the face, which are just those of the document. */
public final class NewObjectTest {
    private static final List<String> FACE = List.of("int card(int,int,int)", "int raw(long,int)", "int drop()",
            "int files(int)", "int put(int)", "int round(int)", "int held(int)", "int name(int,int)", "int octet(int,int,int)",
            "int kind(int,int)", "int wanted(int)", "boolean wants(int,int)", "int checkIns(int)", "int timeline(int,int)",
            "int children(int,int)", "int leaves(int)", "int tag(int,int,int)", "int loose(int)", "int rebuild(int)");

    public static void main(String[] args) {
        Check.due("NONE", ArtifactBags.NONE, -1);
        everythingIsEmpty();
        namesAreNotThere();
        objectsAreApart();
        methodsAreThoseOfTheFace();
        fieldsAreThoseOfTheFace();
        classesInsideAreStaticAndClosed();
        Check.finish();
    }

    private static void everythingIsEmpty() {
        ArtifactBags x = new ArtifactBags();
        for (int r = 0; r < 2; r++) {
            Check.due("held", x.held(r), 0);
            Check.due("name", x.name(r, 0), -1);
            Check.due("wanted", x.wanted(r), 0);
            Check.due("wants", x.wants(r, 0), false);
            Check.due("checkIns", x.checkIns(r), 0);
            Check.due("timeline", x.timeline(r, 0), -1);
            Check.due("children", x.children(r, 0), 0);
            Check.due("leaves", x.leaves(r), 0);
            Check.due("tag", x.tag(r, 0, 0), -1);
            Check.due("loose", x.loose(r), 0);
            Check.due("files", x.files(r), 7);
            Check.due("rebuild", x.rebuild(r), 0);
            Check.due("put of the empty draft", x.put(r), -1);
        }
        Check.due("drop of the empty draft", x.drop(), 0);
        Check.due("round", x.round(10000), 0);
    }

    /** What a row of numbers that was never written has in it must not be taken for a name. */
    private static void namesAreNotThere() {
        ArtifactBags x = new ArtifactBags();
        int[] names = {-1, 0, 1, 7, 16777215, 16777216};
        for (int name : names) {
            for (int r = 0; r < 2; r++) {
                Check.due("kind", x.kind(r, name), -1);
                Check.due("octet", x.octet(r, name, 0), -1);
                Check.due("wants", x.wants(r, name), false);
                Check.due("children", x.children(r, name), 0);
                Check.due("tag", x.tag(r, name, 0), -1);
            }
        }
    }

    private static void objectsAreApart() {
        ArtifactBags x = new ArtifactBags();
        ArtifactBags y = new ArtifactBags();
        Texts.put(x, 0, "a");
        Check.due("raw", x.raw(1, 1), 1);
        Check.due("held of another object", y.held(0), 0);
        Check.due("drop of another object", y.drop(), 0);
    }

    private static void methodsAreThoseOfTheFace() {
        List<String> left = new ArrayList<>(FACE);
        for (Method method : ArtifactBags.class.getDeclaredMethods()) {
            boolean inFace = left.remove(signatureOf(method));
            Check.due("modifiers of " + method, inFace == (method.getModifiers() == Modifier.PUBLIC), true);
            Check.due("closedness of " + method, inFace || Modifier.isPrivate(method.getModifiers()), true);
        }
        Check.due("methods of the face that are not there: " + left, left.size(), 0);
    }

    private static String signatureOf(Method method) {
        StringBuilder types = new StringBuilder();
        for (Class<?> type : method.getParameterTypes()) {
            types.append(types.length() == 0 ? "" : ",").append(type.getSimpleName());
        }
        return method.getReturnType().getSimpleName() + " " + method.getName() + "(" + types + ")";
    }

    private static void fieldsAreThoseOfTheFace() {
        for (Field field : ArtifactBags.class.getDeclaredFields()) {
            boolean isNone = field.getName().equals("NONE");
            Check.due("closedness of " + field, Modifier.isPrivate(field.getModifiers()), !isNone);
            if (isNone) {
                Check.due("modifiers of NONE", field.getModifiers(), Modifier.PUBLIC | Modifier.STATIC | Modifier.FINAL);
                Check.due("whether NONE is an int", field.getType() == int.class, true);
            }
        }
        Check.due("constructors", ArtifactBags.class.getDeclaredConstructors().length, 1);
        Check.due("public constructors", ArtifactBags.class.getConstructors().length, 1);
        Check.due("its parameters", ArtifactBags.class.getConstructors()[0].getParameterCount(), 0);
        Check.due("public and final", ArtifactBags.class.getModifiers(), Modifier.PUBLIC | Modifier.FINAL);
    }

    /** Rule 1 of LANGUAGE.md. */
    private static void classesInsideAreStaticAndClosed() {
        for (Class<?> inside : ArtifactBags.class.getDeclaredClasses()) {
            int modifiers = inside.getModifiers();
            Check.due("whether " + inside + " is static", Modifier.isStatic(modifiers), true);
            Check.due("whether " + inside + " is closed", Modifier.isPublic(modifiers) || Modifier.isProtected(modifiers), false);
            for (Method method : inside.getDeclaredMethods()) {
                String start = " " + method.getName() + "(";
                boolean inFace = FACE.stream().anyMatch(call -> call.contains(start));
                Check.due("whether " + method + " has a name of the face", inFace, false);
            }
        }
    }
}
