/** Promise 1, the constant, and the members that the face may have. */
public final class NewObjectTest {
    private static final String FACE = "card raw drop files put round held name octet kind wanted wants checkIns timeline"
            + " children leaves tag loose rebuild";

    public static void main(String[] args) {
        Check.due("NONE", ArtifactBags.NONE, -1);
        everythingIsEmpty();
        objectsAreApart();
        faceHasNoMore();
        Check.finish();
    }

    private static void everythingIsEmpty() {
        ArtifactBags x = new ArtifactBags();
        for (int r = 0; r < 2; r++) {
            Check.due("held", x.held(r), 0);
            Check.due("name", x.name(r, 0), -1);
            Check.due("wanted", x.wanted(r), 0);
            Check.due("wants", x.wants(r, 0), false);
            Check.due("checkIns", x.checkIns(r), 0);
            Check.due("timeline", x.timeline(r, 0), -1);
            Check.due("children", x.children(r, 0), 0);
            Check.due("leaves", x.leaves(r), 0);
            Check.due("tag", x.tag(r, 0, 0), -1);
            Check.due("loose", x.loose(r), 0);
            Check.due("files", x.files(r), 7);
            Check.due("rebuild", x.rebuild(r), 0);
            Check.due("put of the empty draft", x.put(r), -1);
        }
        Check.due("drop of the empty draft", x.drop(), 0);
        Check.due("round", x.round(10000), 0);
    }

    private static void objectsAreApart() {
        ArtifactBags x = new ArtifactBags();
        ArtifactBags y = new ArtifactBags();
        Texts.put(x, 0, "a");
        Check.due("raw", x.raw(1, 1), 1);
        Check.due("held of another object", y.held(0), 0);
        Check.due("drop of another object", y.drop(), 0);
    }

    private static void faceHasNoMore() {
        for (java.lang.reflect.Method method : ArtifactBags.class.getDeclaredMethods()) {
            boolean open = !java.lang.reflect.Modifier.isPrivate(method.getModifiers());
            boolean inFace = (" " + FACE + " ").contains(" " + method.getName() + " ");
            Check.due("openness of " + method.getName(), open && !method.isSynthetic(), inFace);
        }
        for (java.lang.reflect.Field field : ArtifactBags.class.getDeclaredFields()) {
            boolean open = !java.lang.reflect.Modifier.isPrivate(field.getModifiers());
            Check.due("openness of " + field.getName(), open && !field.isSynthetic(), field.getName().equals("NONE"));
        }
        Check.due("constructors", ArtifactBags.class.getDeclaredConstructors().length, 1);
        Check.due("public and final", ArtifactBags.class.getModifiers(),
                java.lang.reflect.Modifier.PUBLIC | java.lang.reflect.Modifier.FINAL);
    }
}
