/** What the tests sentence by sentence have in common: the exceptions, and the sentences that many promises share. */
abstract class Sentences {
    static final Class<? extends RuntimeException> ARGUMENT = Scene.ARGUMENT;
    static final Class<? extends RuntimeException> STATE = Scene.STATE;
    static final Class<? extends RuntimeException> INDEX = Scene.INDEX;

    static final String FIRST_OF_SEVERAL =
        "When a call throws, nothing has changed; of several exceptions it is the first one of the throws clause.";
    static final String YARD = "`yard`: 0 to 2";
    static final String TRACK = "`track`: 0 to 4";
    static final String NUMBER = "Returns its number.";
    static final String WRONG_TRACK = "Throws `IllegalArgumentException` if yard or track is out of range";
    static final String NO_PLACE = "Throws `IndexOutOfBoundsException` if there is no wagon at place";
    static final String NO_WAGON = "Throws `IndexOutOfBoundsException` if there is no such wagon";
    static final String NO_CALL = "Throws `IndexOutOfBoundsException` if there never was such a call";
    static final String NO_CALL_OR_BOOKING =
        "Throws `IndexOutOfBoundsException` if there never was such a call, or such a booking";
    static final String NO_BOOKING = "Throws `IndexOutOfBoundsException` if there never was such a booking";
    static final String ONE = "`one`: 0 to 2";
    static final String OTHER = "`other`: 0 to 2, another exchange";
    static final String TRUNK = "`trunk`: 0 or 1";
    static final String WRONG_TRUNK =
        "Throws `IllegalArgumentException` if one, other or trunk is out of range, or both exchanges are the same";
}
