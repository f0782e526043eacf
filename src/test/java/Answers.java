/** The answers of the document that are no ordinary numbers, for the tests to name. */
interface Answers {
    int NONE = -1, BAD = -2, STATE = -3, FULL = -4;
    /** There is none, or not by then. */
    int NOT = -5;
    int NOTHING = -11, CAST = -12, PLACE = -13, SIZE = -14;
    /** NONE, where an ordinary answer may be below 0. */
    int NO_NUMBER = -1001;
    long NO = Long.MIN_VALUE;
}
