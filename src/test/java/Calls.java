import java.util.function.ToIntFunction;

/** Calls that are refused, or that only tell something, change nothing that later calls show. */
final class Calls {
    private Calls() { }

    /** Refused in every state of an object. */
    static void refused(String name, int refusal, ToIntFunction<MoreHands> call) {
        for (Scene scene : Scene.values()) {
            refused(scene, name, refusal, call);
        }
    }

    static void refused(Scene scene, String name, int refusal, ToIntFunction<MoreHands> call) {
        Due.is(name + ", " + scene, call.applyAsInt(scene.make()), refusal);
        changeNothing(scene, name, call);
    }

    static void changeNothing(String name, ToIntFunction<MoreHands> call) {
        for (Scene scene : Scene.values()) {
            changeNothing(scene, name, call);
        }
    }

    /** Of two objects made alike one answers the call, the other isn't asked. */
    private static void changeNothing(Scene scene, String name, ToIntFunction<MoreHands> call) {
        for (View view : View.values()) {
            MoreHands asked = scene.make();
            MoreHands twin = scene.make();
            call.applyAsInt(asked);
            Due.same(name + ", " + scene + ", changed " + view, view.of(asked), view.of(twin));
        }
    }
}
