import java.util.Arrays;

/** A small language whose objects go as soon as nothing holds them. */
public final class SnakeCore {
  private static final int TAPE_MOST = 3000;
  private static final int FUEL_MOST = 20000;
  private static final int NAME_MOST = 12;
  private static final int STRING_MOST = 15;
  private static final long INT_LOWEST = 1L << 63;
  private static final long INT_HIGHEST = ~INT_LOWEST;
  private static final long NO_INT = 1L << 62;
  private static final long NOT_BOUND = NO_INT + 1;

  private static final int NO_NAME = 1;
  private static final int BAD_TYPE = 2;
  private static final int BAD_INDEX = 3;
  private static final int NO_KEY = 4;
  private static final int BY_ZERO = 5;
  private static final int OVERFLOW = 6;
  private static final int TOO_DEEP = 7;
  private static final int NO_ROOM = 8;
  private static final int NO_ATTRIBUTE = 9;
  private static final int NO_FUEL = 100;

  // A value is two longs, so that EQUAL is the equality of both: the first four bits of hi are
  // the kind; of a string hi has its length (four bits) and seven bytes, and lo the eight others.
  private static final int UNBOUND = 0;
  private static final int NONE = 1;
  private static final int INT = 2;
  private static final int STRING = 3;
  private static final int OBJECT = 4;
  private static final int BUILT_IN = 5;
  private static final long UNBOUND_HI = 0L;
  private static final long NONE_HI = 1L << 60;
  private static final long INT_HI = 2L << 60;
  private static final long STRING_HI = 3L << 60;
  private static final long OBJECT_HI = 4L << 60;
  private static final long BUILT_IN_HI = 5L << 60;

  private final byte[] tape;
  private final Names names;
  private final Heap heap;
  private final Lexer lexer;
  private final Statements statements;
  private final Builtins builtins;
  private final Machine machine;
  private int tapeLength;
  private int latestLine;

  public SnakeCore() {
    tape = new byte[TAPE_MOST];
    heap = new Heap();
    names = new Names(heap);
    Program program = new Program();
    lexer = new Lexer(tape, names);
    Scopes scopes = new Scopes(program);
    statements = new Statements(lexer, program, scopes, new Expressions(lexer, program, scopes));
    Stack stack = new Stack(heap);
    builtins = new Builtins(heap, stack, names, program);
    machine = new Machine(program, heap, names, stack, builtins);
  }

  public int feed(int a, int b, int c, int d, int e) {
    if (tapeLength + 20 > TAPE_MOST) return -1;
    putFour(a);
    putFour(b);
    putFour(c);
    putFour(d);
    putFour(e);
    return tapeLength;
  }

  public int end(int n) {
    if (n < 0 || n > tapeLength) return -1;
    tapeLength = n;
    return n;
  }

  public int run(int fuel) {
    if (fuel < 1 || fuel > FUEL_MOST) return -2;
    builtins.clearOut();
    machine.forgetSteps();
    int start = statements.begin(tapeLength);
    tapeLength = 0;
    statements.parse(0, 0);
    if (!statements.finish(start)) {
      latestLine = lexer.fault;
      return -1;
    }
    int error = machine.perform(start, fuel);
    latestLine = error == 0 ? 0 : machine.errorLine();
    return error;
  }

  public int line() {
    return latestLine;
  }

  public int octet(int i) {
    return i == -1 ? builtins.outLength() : builtins.outByte(i);
  }

  public int count(int what) {
    if (what == 0) return heap.alive();
    if (what >= 1 && what <= 7) return heap.countOf(what);
    if (what == 8) return names.boundCount();
    return what == 9 ? machine.stepsDone() : -1;
  }

  public int bind(long value) {
    int name = tapeName();
    if (name < 0) return -1;
    names.assign(name, INT_HI, value);
    return 0;
  }

  public long value() {
    int name = tapeName();
    int kind = kindOf(names.hiOf(name));
    if (kind == UNBOUND) return NOT_BOUND;
    return kind == INT ? names.loOf(name) : NO_INT;
  }

  private void putFour(int word) {
    for (int shift = 24; shift >= 0 && tapeLength < TAPE_MOST; shift -= 8) {
      tape[tapeLength] = (byte) (word >>> shift);
      tapeLength++;
    }
  }

  /** The name that the tape is, which is empty then; -1 if it is none. */
  private int tapeName() {
    int length = tapeLength;
    tapeLength = 0;
    return lexer.onlyName(length);
  }

  private static int kindOf(long hi) {
    return (int) (hi >>> 60);
  }

  private static int lengthOf(long hi) {
    return (int) (hi >>> 56) & 15;
  }

  private static int byteOf(long hi, long lo, int i) {
    long at = i < 7 ? hi >>> (48 - 8 * i) : lo >>> (56 - 8 * (i - 7));
    return (int) at & 255;
  }

  private static long appendedHi(long hi, int b) {
    int n = (int) (hi >>> 56) & 15;
    long longer = hi + (1L << 56);
    return n < 7 ? longer | (long) b << (48 - 8 * n) : longer;
  }

  private static long appendedLo(long hi, long lo, int b) {
    int n = (int) (hi >>> 56) & 15;
    return n < 7 ? lo : lo | (long) b << (56 - 8 * (n - 7));
  }

  /** The object that a value is; 0 if it is none. */
  private static int objectOf(long hi, long lo) {
    return hi >>> 60 == OBJECT ? (int) lo : 0;
  }

  private static boolean isKey(long hi) {
    return kindOf(hi) == INT || kindOf(hi) == STRING;
  }

  private static boolean isLetter(int b) {
    return b >= 'a' && b <= 'z' || b >= 'A' && b <= 'Z' || b == '_';
  }

  private static boolean isDigit(int b) {
    return b >= '0' && b <= '9';
  }

  /** Every name that was ever read, by number, and what it is bound to as a global name. */
  private static final class Names {
    // 512 calls bring at most 10240 bytes, in which no 3500 different names have room.
    private static final int MOST = 4096;
    private static final int BUCKETS = 1024;
    // The order of these words is that of the numbers of Lexer's words and of Builtins.
    private static final String HEADS = "if elif else while for in def class return break continue ";
    private static final String OTHERS = "pass del global try except raise and or not is None True False ";
    private static final String BUILT_INS = "print len range push pop keys text refs alive collect ";
    private static final int WORD_COUNT = 24;
    private static final int BUILT_IN_COUNT = 10;
    private static final int INIT = WORD_COUNT + BUILT_IN_COUNT;

    private final Heap heap;
    private final long[] nameHi;
    private final long[] nameLo;
    private final int[] buckets;
    private final int[] chain;
    private final long[] valueHi;
    private final long[] valueLo;
    private int size;
    private int bound;

    private Names(Heap heap) {
      this.heap = heap;
      nameHi = new long[MOST];
      nameLo = new long[MOST];
      buckets = new int[BUCKETS];
      chain = new int[MOST];
      valueHi = new long[MOST];
      valueLo = new long[MOST];
      learn(HEADS);
      learn(OTHERS);
      learn(BUILT_INS);
      learn("init ");
    }

    private void learn(String words) {
      long hi = STRING_HI;
      long lo = 0;
      for (int i = 0; i < words.length(); i++) {
        char c = words.charAt(i);
        if (c == ' ') {
          numberOf(hi, lo);
          hi = STRING_HI;
          lo = 0;
        } else {
          lo = appendedLo(hi, lo, c);
          hi = appendedHi(hi, c);
        }
      }
    }

    /** The number of a name, a new one if need be; -1 if there is no room for it. */
    private int numberOf(long hi, long lo) {
      long mixed = hi * 31 + lo * 17;
      mixed ^= mixed >>> 32;
      mixed ^= mixed >>> 15;
      int bucket = (int) (mixed & (BUCKETS - 1));
      int id = buckets[bucket] - 1;
      for (int turn = 0; turn < MOST && id >= 0 && id < MOST; turn++) {
        if (nameHi[id] == hi && nameLo[id] == lo) return id;
        id = chain[id] - 1;
      }
      if (size >= MOST) return -1;
      nameHi[size] = hi;
      nameLo[size] = lo;
      chain[size] = buckets[bucket];
      size++;
      buckets[bucket] = size;
      return size - 1;
    }

    private static int builtInOf(int id) {
      return id >= WORD_COUNT && id < INIT ? id - WORD_COUNT + 1 : 0;
    }

    private boolean known(int id) {
      return id >= 0 && id < MOST;
    }

    private long nameHi(int id) {
      return known(id) ? nameHi[id] : STRING_HI;
    }

    private long nameLo(int id) {
      return known(id) ? nameLo[id] : 0;
    }

    private long hiOf(int id) {
      return known(id) ? valueHi[id] : UNBOUND_HI;
    }

    private long loOf(int id) {
      return known(id) ? valueLo[id] : 0;
    }

    private int boundCount() {
      return bound;
    }

    /** Binds a global name; with an unbound value, unbinds it. */
    private void assign(int id, long hi, long lo) {
      if (!known(id)) return;
      long oldHi = valueHi[id];
      long oldLo = valueLo[id];
      if (kindOf(oldHi) != UNBOUND) bound--;
      if (kindOf(hi) != UNBOUND) bound++;
      valueHi[id] = hi;
      valueLo[id] = lo;
      heap.hold(heap.named, objectOf(hi, lo));
      heap.release(heap.named, objectOf(oldHi, oldLo));
    }
  }

  /** The code of all texts, as functions outlive the text that made them. */
  private static final class Program {
    private static final int HALT = 0;
    private static final int STATEMENT = 1;
    private static final int BACK = 2;
    private static final int LINE = 3;
    private static final int JUMP = 4;
    private static final int JUMP_FALSE = 5;
    private static final int AND = 6;
    private static final int OR = 7;
    private static final int RETURN = 8;
    private static final int FOR_BEGIN = 9;
    private static final int FOR_NEXT = 10;
    private static final int FOR_END = 11;
    private static final int TRY = 12;
    private static final int UNTRY = 13;
    private static final int RAISE = 14;
    private static final int FAIL = 15;
    private static final int LAST_FLOW = 15;
    private static final int CONSTANT = 16;
    private static final int POP = 17;
    private static final int LOAD = 18;
    private static final int STORE = 19;
    private static final int UNBIND = 20;
    private static final int CALLEE = 21;
    private static final int FUNCTION = 22;
    private static final int CLASS = 23;
    private static final int REPLACE = 24;
    private static final int LAST_NAMING = 24;
    private static final int NOT = 25;
    private static final int NEGATE = 26;
    private static final int ADD = 27;
    private static final int SUBTRACT = 28;
    private static final int MULTIPLY = 29;
    private static final int DIVIDE = 30;
    private static final int REMAINDER = 31;
    private static final int EQUAL = 32;
    private static final int UNEQUAL = 33;
    private static final int LESS = 34;
    private static final int AT_MOST = 35;
    private static final int MORE = 36;
    private static final int AT_LEAST = 37;
    private static final int IN = 38;
    private static final int INDEX = 39;
    private static final int PEEK_INDEX = 40;
    private static final int PUT_INDEX = 41;
    private static final int POKE_INDEX = 42;
    private static final int DELETE_INDEX = 43;
    private static final int LAST_WITHOUT_OPERAND = 43;
    private static final int ATTRIBUTE = 44;
    private static final int PEEK_ATTRIBUTE = 45;
    private static final int PUT_ATTRIBUTE = 46;
    private static final int POKE_ATTRIBUTE = 47;
    private static final int DELETE_ATTRIBUTE = 48;
    private static final int LIST = 49;
    private static final int DICT = 50;
    private static final int CALL = 51;

    // 512 calls bring at most 10240 bytes; one gives no more than three places of code, two a
    // constant, twelve a function.
    private static final int CODE_MOST = 40960;
    private static final int CONSTANTS_MOST = 5200;
    private static final int FUNCTIONS_MOST = 900;

    private final int[] code;
    private final long[] constantHi;
    private final long[] constantLo;
    private final int[] starts;
    private final int[] parameters;
    private final int[] locals;
    private final int[] titles;
    private int top;
    private int constants;
    private int functions;
    private boolean full;

    private Program() {
      code = new int[CODE_MOST];
      constantHi = new long[CONSTANTS_MOST];
      constantLo = new long[CONSTANTS_MOST];
      starts = new int[FUNCTIONS_MOST];
      parameters = new int[FUNCTIONS_MOST];
      locals = new int[FUNCTIONS_MOST];
      titles = new int[FUNCTIONS_MOST];
    }

    /** What stands at a place: the end, where there is none. */
    private int at(int place) {
      return place >= 0 && place < top && place < CODE_MOST ? code[place] : HALT;
    }

    /** Puts code; gives its place. */
    private int put(int op) {
      if (!hasRoom(1)) return CODE_MOST;
      code[top] = op;
      top++;
      return top - 1;
    }

    private int put(int op, int operand) {
      if (!hasRoom(2)) return CODE_MOST;
      code[top] = op;
      code[top + 1] = operand;
      top += 2;
      return top - 2;
    }

    private int put(int op, int first, int second) {
      if (!hasRoom(3)) return CODE_MOST;
      code[top] = op;
      code[top + 1] = first;
      code[top + 2] = second;
      top += 3;
      return top - 3;
    }

    private boolean hasRoom(int words) {
      boolean has = top >= 0 && top + words <= CODE_MOST;
      if (!has) full = true;
      return has;
    }

    private void patch(int place, int word) {
      if (place >= 0 && place < top && place < CODE_MOST) code[place] = word;
    }

    private void putConstant(long hi, long lo) {
      if (constants < CONSTANTS_MOST) {
        constantHi[constants] = hi;
        constantLo[constants] = lo;
        constants++;
      } else {
        full = true;
      }
      put(CONSTANT, constants - 1);
    }

    private boolean isConstant(int number) {
      return number >= 0 && number < CONSTANTS_MOST;
    }

    private long constantHi(int number) {
      return isConstant(number) ? constantHi[number] : NONE_HI;
    }

    private long constantLo(int number) {
      return isConstant(number) ? constantLo[number] : 0;
    }

    /** Forgets what came behind: of a fault, or of a target that is read again. */
    private void cut(int codeTop, int constantTop, int functionTop) {
      top = codeTop;
      constants = constantTop;
      functions = functionTop;
    }

    private boolean isFunction(int number) {
      return number >= 0 && number < FUNCTIONS_MOST;
    }

    private int addFunction(int title) {
      if (functions >= FUNCTIONS_MOST) {
        full = true;
        return FUNCTIONS_MOST - 1;
      }
      titles[functions] = title;
      starts[functions] = top;
      parameters[functions] = 0;
      locals[functions] = 0;
      functions++;
      return functions - 1;
    }

    private void addParameter(int number) {
      if (isFunction(number)) parameters[number]++;
    }

    private int addLocal(int number) {
      if (!isFunction(number)) return 0;
      locals[number]++;
      return locals[number] - 1;
    }

    private int startOf(int number) {
      return isFunction(number) ? starts[number] : CODE_MOST;
    }

    private int parametersOf(int number) {
      return isFunction(number) ? parameters[number] : 0;
    }

    private int localsOf(int number) {
      return isFunction(number) ? locals[number] : 0;
    }

    private int titleOf(int number) {
      return isFunction(number) ? titles[number] : -1;
    }
  }

  /** The tape's lines and tokens, and the first fault that was found. */
  private static final class Lexer {
    private static final int BAD = 0;
    private static final int END = 1;
    private static final int LINE_END = 2;
    private static final int NAME = 3;
    private static final int NUMBER = 4;
    private static final int TEXT = 5;
    private static final int OPEN = 6;
    private static final int CLOSE = 7;
    private static final int OPEN_SQUARE = 8;
    private static final int CLOSE_SQUARE = 9;
    private static final int OPEN_CURLY = 10;
    private static final int CLOSE_CURLY = 11;
    private static final int COMMA = 12;
    private static final int COLON = 13;
    private static final int DOT = 14;
    private static final int PLUS = 15;
    private static final int MINUS = 16;
    private static final int STAR = 17;
    private static final int PERCENT = 18;
    private static final int ASSIGN = 19;
    private static final int LESS = 20;
    private static final int MORE = 21;
    private static final int FIRST_DOUBLE = 22;
    private static final int SLASHES = 22;
    private static final int ADD_ASSIGN = 23;
    private static final int SUBTRACT_ASSIGN = 24;
    private static final int MULTIPLY_ASSIGN = 25;
    private static final int EQUAL = 26;
    private static final int UNEQUAL = 27;
    private static final int AT_MOST = 28;
    private static final int AT_LEAST = 29;
    private static final int FIRST_WORD = 40;
    private static final int IF = 40;
    private static final int ELIF = 41;
    private static final int ELSE = 42;
    private static final int WHILE = 43;
    private static final int FOR = 44;
    private static final int IN = 45;
    private static final int DEF = 46;
    private static final int CLASS = 47;
    private static final int RETURN = 48;
    private static final int BREAK = 49;
    private static final int CONTINUE = 50;
    private static final int PASS = 51;
    private static final int DEL = 52;
    private static final int GLOBAL = 53;
    private static final int TRY = 54;
    private static final int EXCEPT = 55;
    private static final int RAISE = 56;
    private static final int AND = 57;
    private static final int OR = 58;
    private static final int NOT = 59;
    private static final int IS = 60;
    private static final int NONE_WORD = 61;
    private static final int TRUE = 62;
    private static final int FALSE = 63;

    private final byte[] tape;
    private final Names names;
    private int length;
    private int position;
    private int start;
    private int token;
    private int line;
    private int linesRead;
    private int indent;
    private int name;
    private long number;
    private long textHi;
    private long textLo;
    private int fault;

    private Lexer(byte[] tape, Names names) {
      this.tape = tape;
      this.names = names;
    }

    private int byteAt(int place) {
      return place >= 0 && place < length && place < tape.length ? tape[place] & 255 : -1;
    }

    /** Begins a text, at its first line with a token. */
    private void begin(int bytes) {
      length = bytes;
      position = 0;
      fault = 0;
      line = 0;
      linesRead = 1;
      findLine();
      if (token == LINE_END) read();
    }

    /** What cannot stand; from here on nothing can, so that every rule ends at once. */
    private void fail() {
      if (fault == 0) fault = line;
      token = BAD;
    }

    private void nextLine() {
      if (token != LINE_END) {
        fail();
        return;
      }
      skipLine();
      findLine();
      if (token == LINE_END) read();
    }

    private void skipLine() {
      while (position < length && byteAt(position) != 10) position++;
      if (position < length) {
        position++;
        linesRead++;
      }
    }

    /** From the beginning of a line to where this or a later one has its first token. */
    private void findLine() {
      for (int turn = 0; turn <= length; turn++) {
        int from = position;
        skipBlanks();
        if (position >= length) break;
        if (byteAt(position) != 10 && byteAt(position) != '#') {
          line = linesRead;
          indent = position - from;
          token = LINE_END;
          return;
        }
        skipLine();
      }
      token = END;
      indent = -1;
    }

    private void skipBlanks() {
      while (position < length && byteAt(position) == ' ') position++;
    }

    /** Reads a part of the line again, or goes on behind it. */
    private void goTo(int place) {
      position = place;
      read();
    }

    /** Goes on behind a token, which must be this one. */
    private void pass(int sign) {
      if (token != sign) fail();
      read();
    }

    /** Goes on behind a token, whatever it is. */
    private void read() {
      if (token == BAD) return;
      skipBlanks();
      start = position;
      int b = byteAt(position);
      if (b == -1 || b == 10 || b == '#') token = LINE_END;
      else if (isLetter(b)) readName();
      else if (isDigit(b)) readNumber();
      else if (b == '\'') readText();
      else readSign(b);
    }

    private void readName() {
      long hi = STRING_HI;
      long lo = 0;
      int b = byteAt(position);
      while (position < length && (isLetter(b) || isDigit(b))) {
        if (position - start >= NAME_MOST) {
          fail();
          return;
        }
        lo = appendedLo(hi, lo, b);
        hi = appendedHi(hi, b);
        position++;
        b = byteAt(position);
      }
      name = names.numberOf(hi, lo);
      token = name >= 0 && name < Names.WORD_COUNT ? FIRST_WORD + name : NAME;
      if (name < 0) fail();
    }

    private void readNumber() {
      number = 0;
      int b = byteAt(position);
      while (position < length && isDigit(b)) {
        if (number > (INT_HIGHEST - (b - '0')) / 10) {
          fail();
          return;
        }
        number = number * 10 + (b - '0');
        position++;
        b = byteAt(position);
      }
      token = NUMBER;
    }

    private void readText() {
      textHi = STRING_HI;
      textLo = 0;
      position++;
      int b = byteAt(position);
      while (position < length && b != '\'') {
        if (b < 32 || b > 126 || lengthOf(textHi) >= STRING_MOST) {
          fail();
          return;
        }
        textLo = appendedLo(textHi, textLo, b);
        textHi = appendedHi(textHi, b);
        position++;
        b = byteAt(position);
      }
      if (position >= length) {
        fail();
        return;
      }
      position++;
      token = TEXT;
    }

    private void readSign(int b) {
      int sign = byteAt(position + 1) == '=' ? signWithEqual(b) : BAD;
      if (b == '/' && byteAt(position + 1) == '/') sign = SLASHES;
      if (sign == BAD) sign = signAlone(b);
      if (sign == BAD) {
        fail();
        return;
      }
      position += sign >= FIRST_DOUBLE ? 2 : 1;
      token = sign;
    }

    private static int signWithEqual(int b) {
      switch (b) {
        case '+': return ADD_ASSIGN;
        case '-': return SUBTRACT_ASSIGN;
        case '*': return MULTIPLY_ASSIGN;
        case '=': return EQUAL;
        case '!': return UNEQUAL;
        case '<': return AT_MOST;
        case '>': return AT_LEAST;
        default: return BAD;
      }
    }

    private static int signAlone(int b) {
      switch (b) {
        case '(': return OPEN;
        case ')': return CLOSE;
        case '[': return OPEN_SQUARE;
        case ']': return CLOSE_SQUARE;
        case '{': return OPEN_CURLY;
        case '}': return CLOSE_CURLY;
        case ',': return COMMA;
        case ':': return COLON;
        case '.': return DOT;
        case '+': return PLUS;
        case '-': return MINUS;
        case '*': return STAR;
        case '%': return PERCENT;
        case '=': return ASSIGN;
        case '<': return LESS;
        case '>': return MORE;
        default: return BAD;
      }
    }

    /** The number of the name that all the bytes are; -1 if they are none. */
    private int onlyName(int bytes) {
      length = bytes;
      position = 0;
      start = 0;
      token = LINE_END;
      if (bytes > NAME_MOST || !isLetter(byteAt(0))) return -1;
      readName();
      return token == NAME && position == length ? name : -1;
    }
  }

  /** Which names are local in which function of a text, and the places of the code that wait for it. */
  private static final class Scopes {
    // A text of 3000 bytes has no more names and functions.
    private static final int NAMES_MOST = 1600;
    private static final int SCOPES_MOST = 300;
    private static final int LOCAL = 0;
    private static final int PARAMETER = 1;
    private static final int GLOBAL = 2;

    private final Program program;
    private final int[] parents;
    private final int[] functions;
    private final int[] lastEntries;
    private final int[] entryNames;
    private final int[] entryScopes;
    private final int[] entryKinds;
    private final int[] entrySlots;
    private final int[] entryChain;
    private final int[] fixPlaces;
    private final int[] fixScopes;
    private int current;
    private int scopes;
    private int entries;
    private int fixes;

    private Scopes(Program program) {
      this.program = program;
      parents = new int[SCOPES_MOST];
      functions = new int[SCOPES_MOST];
      lastEntries = new int[SCOPES_MOST];
      entryNames = new int[NAMES_MOST];
      entryScopes = new int[NAMES_MOST];
      entryKinds = new int[NAMES_MOST];
      entrySlots = new int[NAMES_MOST];
      entryChain = new int[NAMES_MOST];
      fixPlaces = new int[NAMES_MOST];
      fixScopes = new int[NAMES_MOST];
    }

    private void begin() {
      current = 0;
      scopes = 1;
      entries = 0;
      fixes = 0;
    }

    private boolean inFunction() {
      return current != 0;
    }

    /** Goes into a function's scope; gives the one around. */
    private int enter(int function) {
      int around = current;
      if (scopes >= SCOPES_MOST) {
        program.full = true;
        return around;
      }
      current = scopes;
      scopes++;
      parents[current] = around;
      functions[current] = function;
      lastEntries[current] = -1;
      return around;
    }

    private void leave(int around) {
      current = around;
    }

    private int entryOf(int scope, int name) {
      int entry = scope > 0 && scope < SCOPES_MOST ? lastEntries[scope] : -1;
      for (int turn = 0; turn < NAMES_MOST && entry >= 0 && entry < NAMES_MOST; turn++) {
        if (entryNames[entry] == name) return entry;
        entry = entryChain[entry];
      }
      return -1;
    }

    private void add(int name, int kind) {
      if (entries >= NAMES_MOST || current < 0 || current >= SCOPES_MOST) {
        program.full = true;
        return;
      }
      entryNames[entries] = name;
      entryScopes[entries] = current;
      entryKinds[entries] = kind;
      entryChain[entries] = lastEntries[current];
      lastEntries[current] = entries;
      entries++;
    }

    private void bound(int name) {
      if (inFunction() && entryOf(current, name) < 0) add(name, LOCAL);
    }

    /** Whether it may be one: parameters are different. */
    private boolean parameter(int name) {
      if (entryOf(current, name) >= 0) return false;
      add(name, PARAMETER);
      return true;
    }

    /** Whether it may be global: a parameter may not. */
    private boolean global(int name) {
      int entry = entryOf(current, name);
      if (entry < 0 || entry >= NAMES_MOST) {
        add(name, GLOBAL);
        return true;
      }
      if (entryKinds[entry] == PARAMETER) return false;
      entryKinds[entry] = GLOBAL;
      return true;
    }

    /** Puts code that speaks of a name, for the time being as a global one. */
    private int put(int op, int name) {
      int place = program.put(op, -1, name);
      if (!inFunction()) return place;
      if (fixes < NAMES_MOST) {
        fixPlaces[fixes] = place;
        fixScopes[fixes] = current;
        fixes++;
      } else {
        program.full = true;
      }
      return place;
    }

    private void forget(int place) {
      while (fixes > 0 && fixes <= NAMES_MOST && fixPlaces[fixes - 1] >= place) fixes--;
    }

    /** At the end of the text: a global statement may stand behind what it speaks of. */
    private void settle() {
      for (int entry = 0; entry < entries && entry < NAMES_MOST; entry++) {
        int scope = entryScopes[entry];
        if (entryKinds[entry] != GLOBAL && scope >= 0 && scope < SCOPES_MOST) {
          entrySlots[entry] = program.addLocal(functions[scope]);
        }
      }
      for (int fix = 0; fix < fixes && fix < NAMES_MOST; fix++) {
        settle(fixPlaces[fix], fixScopes[fix]);
      }
    }

    private void settle(int place, int from) {
      int name = program.at(place + 2);
      int scope = from;
      for (int up = 0; up < SCOPES_MOST && scope > 0 && scope < SCOPES_MOST; up++) {
        int entry = entryOf(scope, name);
        if (entry >= 0 && entry < NAMES_MOST) {
          if (entryKinds[entry] != GLOBAL) {
            program.patch(place + 1, up);
            program.patch(place + 2, entrySlots[entry]);
            return;
          }
          if (scope == from) return;
        }
        scope = parents[scope];
      }
    }
  }

  /** The rules of EXPR, each of which puts the code that finds its value. */
  private static final class Expressions {
    private static final int DEPTH_MOST = 12;
    private static final int ARGUMENTS_MOST = 8;
    private static final int ITEMS_MOST = 40;
    private static final int PAIRS_MOST = 20;
    private static final int NO_TARGET = 0;
    private static final int NAME_TARGET = 1;
    private static final int INDEX_TARGET = 2;
    private static final int ATTRIBUTE_TARGET = 3;

    private final Lexer lexer;
    private final Program program;
    private final Scopes scopes;
    // What the latest expression would be as a TARGET, and the place of its last code.
    private int target;
    private int targetPlace;

    private Expressions(Lexer lexer, Program program, Scopes scopes) {
      this.lexer = lexer;
      this.program = program;
      this.scopes = scopes;
    }

    /** EXPR, nested so deep. */
    private void parse(int depth) {
      both(depth);
      for (int turn = 0; turn < TAPE_MOST && lexer.token == Lexer.OR; turn++) {
        lexer.pass(Lexer.OR);
        int jump = program.put(Program.OR, 0);
        both(depth);
        program.patch(jump + 1, program.top);
        target = NO_TARGET;
      }
    }

    private void both(int depth) {
      negation(depth);
      for (int turn = 0; turn < TAPE_MOST && lexer.token == Lexer.AND; turn++) {
        lexer.pass(Lexer.AND);
        int jump = program.put(Program.AND, 0);
        negation(depth);
        program.patch(jump + 1, program.top);
        target = NO_TARGET;
      }
    }

    private void negation(int depth) {
      if (lexer.token != Lexer.NOT) {
        comparison(depth);
        return;
      }
      if (goesDeeper(depth)) negation(depth + 1);
      program.put(Program.NOT);
      target = NO_TARGET;
    }

    /** Goes behind a token, if what is there may be one deeper. */
    private boolean goesDeeper(int depth) {
      if (depth >= DEPTH_MOST) lexer.fail();
      lexer.read();
      return lexer.token != Lexer.BAD;
    }

    private void comparison(int depth) {
      sum(depth);
      int op = comparisonOf(lexer.token);
      if (op == Program.HALT) return;
      lexer.read();
      sum(depth);
      program.put(op);
      target = NO_TARGET;
    }

    private static int comparisonOf(int token) {
      switch (token) {
        case Lexer.EQUAL: return Program.EQUAL;
        case Lexer.IS: return Program.EQUAL;
        case Lexer.UNEQUAL: return Program.UNEQUAL;
        case Lexer.LESS: return Program.LESS;
        case Lexer.AT_MOST: return Program.AT_MOST;
        case Lexer.MORE: return Program.MORE;
        case Lexer.AT_LEAST: return Program.AT_LEAST;
        case Lexer.IN: return Program.IN;
        default: return Program.HALT;
      }
    }

    private void sum(int depth) {
      term(depth);
      for (int turn = 0; turn < TAPE_MOST; turn++) {
        if (lexer.token != Lexer.PLUS && lexer.token != Lexer.MINUS) break;
        int op = lexer.token == Lexer.PLUS ? Program.ADD : Program.SUBTRACT;
        lexer.read();
        term(depth);
        program.put(op);
        target = NO_TARGET;
      }
    }

    private void term(int depth) {
      factor(depth);
      int op = termOf(lexer.token);
      for (int turn = 0; turn < TAPE_MOST && op != Program.HALT; turn++) {
        lexer.read();
        factor(depth);
        program.put(op);
        target = NO_TARGET;
        op = termOf(lexer.token);
      }
    }

    private static int termOf(int token) {
      switch (token) {
        case Lexer.STAR: return Program.MULTIPLY;
        case Lexer.SLASHES: return Program.DIVIDE;
        case Lexer.PERCENT: return Program.REMAINDER;
        default: return Program.HALT;
      }
    }

    private void factor(int depth) {
      if (lexer.token != Lexer.MINUS) {
        post(depth);
        return;
      }
      if (goesDeeper(depth)) factor(depth + 1);
      program.put(Program.NEGATE);
      target = NO_TARGET;
    }

    private void post(int depth) {
      atom(depth);
      boolean more = true;
      for (int turn = 0; more && turn < TAPE_MOST; turn++) {
        switch (lexer.token) {
          case Lexer.OPEN: made(Program.CALL, list(depth, Lexer.CLOSE, ARGUMENTS_MOST)); break;
          case Lexer.OPEN_SQUARE: index(depth); break;
          case Lexer.DOT: attribute(); break;
          default: more = false;
        }
      }
    }

    /** Puts the code for what a pair of brackets makes of so many values. */
    private void made(int op, int values) {
      program.put(op, values);
      target = NO_TARGET;
    }

    private void index(int depth) {
      if (goesDeeper(depth)) parse(depth + 1);
      lexer.pass(Lexer.CLOSE_SQUARE);
      targetPlace = program.put(Program.INDEX);
      target = INDEX_TARGET;
    }

    private void attribute() {
      lexer.read();
      if (lexer.token != Lexer.NAME) lexer.fail();
      targetPlace = program.put(Program.ATTRIBUTE, lexer.name);
      target = ATTRIBUTE_TARGET;
      lexer.read();
    }

    /** EXPRs with commas between, in brackets; how many. */
    private int list(int depth, int close, int most) {
      if (!goesDeeper(depth)) return 0;
      int found = 0;
      boolean more = lexer.token != close;
      while (more && found <= most) {
        parse(depth + 1);
        found++;
        more = lexer.token == Lexer.COMMA;
        if (more) lexer.pass(Lexer.COMMA);
      }
      if (found > most) lexer.fail();
      lexer.pass(close);
      return found;
    }

    /** EXPR : EXPR with commas between, in { }; how many. */
    private int pairs(int depth) {
      if (!goesDeeper(depth)) return 0;
      int found = 0;
      boolean more = lexer.token != Lexer.CLOSE_CURLY;
      while (more && found <= PAIRS_MOST) {
        parse(depth + 1);
        lexer.pass(Lexer.COLON);
        parse(depth + 1);
        found++;
        more = lexer.token == Lexer.COMMA;
        if (more) lexer.pass(Lexer.COMMA);
      }
      if (found > PAIRS_MOST) lexer.fail();
      lexer.pass(Lexer.CLOSE_CURLY);
      return found;
    }

    private void atom(int depth) {
      target = NO_TARGET;
      switch (lexer.token) {
        case Lexer.NAME: name(); break;
        case Lexer.NUMBER: constant(INT_HI, lexer.number); break;
        case Lexer.TEXT: constant(lexer.textHi, lexer.textLo); break;
        case Lexer.NONE_WORD: constant(NONE_HI, 0); break;
        case Lexer.TRUE: constant(INT_HI, 1); break;
        case Lexer.FALSE: constant(INT_HI, 0); break;
        case Lexer.OPEN:
          if (goesDeeper(depth)) parse(depth + 1);
          lexer.pass(Lexer.CLOSE);
          target = NO_TARGET;
          break;
        case Lexer.OPEN_SQUARE: made(Program.LIST, list(depth, Lexer.CLOSE_SQUARE, ITEMS_MOST)); break;
        case Lexer.OPEN_CURLY: made(Program.DICT, pairs(depth)); break;
        default: lexer.fail();
      }
    }

    private void constant(long hi, long lo) {
      program.putConstant(hi, lo);
      lexer.read();
    }

    private void name() {
      int name = lexer.name;
      lexer.read();
      if (lexer.token == Lexer.OPEN) {
        scopes.put(Program.CALLEE, name);
        program.put(Names.builtInOf(name));
        return;
      }
      targetPlace = scopes.put(Program.LOAD, name);
      target = NAME_TARGET;
    }
  }

  /** The rules of TEXT, STATEMENT and BLOCK, each of which puts the code that does it. */
  private static final class Statements {
    private static final int BLOCKS_MOST = 10;
    private static final int PARAMETERS_MOST = 8;
    private static final int ATTRIBUTES_MOST = 40;
    private static final int NO_PLACE = -1;

    private final Lexer lexer;
    private final Program program;
    private final Scopes scopes;
    private final Expressions expressions;
    // Of the classes whose blocks lie around: their attributes, one class behind the other.
    private final int[] attributes;
    private int attributesTop;
    private int constantsBefore;
    private int functionsBefore;
    private int tries;
    // Of the innermost loop: where it goes back, the latest jump out of it, and the tries around.
    private int loopBack;
    private int loopExits;
    private int loopTries;

    private Statements(Lexer lexer, Program program, Scopes scopes, Expressions expressions) {
      this.lexer = lexer;
      this.program = program;
      this.scopes = scopes;
      this.expressions = expressions;
      attributes = new int[(BLOCKS_MOST + 1) * ATTRIBUTES_MOST];
    }

    /** Begins a text of so many bytes; gives the place where its code begins. */
    private int begin(int length) {
      program.full = false;
      scopes.begin();
      attributesTop = 0;
      tries = 0;
      loopBack = NO_PLACE;
      constantsBefore = program.constants;
      functionsBefore = program.functions;
      lexer.begin(length);
      return program.top;
    }

    /** Ends a text; whether it has no fault, which the lexer tells. */
    private boolean finish(int start) {
      program.put(Program.HALT);
      if (program.full) lexer.fail();
      boolean stands = lexer.token != Lexer.BAD;
      if (stands) scopes.settle();
      else program.cut(start, constantsBefore, functionsBefore);
      return stands;
    }

    /** The statements of one indent: of the text, or of a block that is so deep. */
    private void parse(int indent, int depth) {
      for (int turn = 0; turn <= TAPE_MOST && inside(indent); turn++) statement(depth);
      if (lexer.indent > indent) lexer.fail();
    }

    private boolean inside(int indent) {
      return lexer.token != Lexer.BAD && lexer.token != Lexer.END && lexer.indent == indent;
    }

    private void block(int outer, int depth) {
      if (opens(outer, depth)) parse(lexer.indent, depth);
    }

    /** The end of the head, and whether the next line can begin its block. */
    private boolean opens(int outer, int depth) {
      lexer.pass(Lexer.COLON);
      lexer.nextLine();
      if (lexer.indent <= outer || depth > BLOCKS_MOST) lexer.fail();
      return lexer.token != Lexer.BAD;
    }

    private void statement(int depth) {
      program.put(Program.STATEMENT, lexer.line);
      switch (lexer.token) {
        case Lexer.IF: branches(depth); return;
        case Lexer.WHILE: whileLoop(depth); return;
        case Lexer.FOR: forLoop(depth); return;
        case Lexer.DEF: bindTo(function(depth)); return;
        case Lexer.CLASS: classOf(depth); return;
        case Lexer.TRY: attempt(depth); return;
        case Lexer.DEL: deletion(); break;
        case Lexer.RETURN: giving(); break;
        case Lexer.RAISE: raising(); break;
        case Lexer.PASS: lexer.pass(Lexer.PASS); break;
        case Lexer.BREAK: leaving(true); break;
        case Lexer.CONTINUE: leaving(false); break;
        case Lexer.GLOBAL: globals(); break;
        default: binding();
      }
      lexer.nextLine();
    }

    private int takeName() {
      int name = lexer.name;
      lexer.pass(Lexer.NAME);
      return name;
    }

    private void bindTo(int name) {
      scopes.bound(name);
      scopes.put(Program.STORE, name);
    }

    /** An EXPR, or a TARGET with = += -= *= behind it. */
    private void binding() {
      int from = lexer.start;
      int code = program.top;
      int constants = program.constants;
      expressions.parse(0);
      if (lexer.token == Lexer.ASSIGN) {
        if (expressions.target == Expressions.NO_TARGET) lexer.fail();
        // The target is read again behind EXPR, as its values are found behind that of EXPR.
        program.cut(code, constants, program.functions);
        scopes.forget(code);
        lexer.pass(Lexer.ASSIGN);
        expressions.parse(0);
        if (lexer.token != Lexer.LINE_END) lexer.fail();
        int behind = lexer.start;
        lexer.goTo(from);
        expressions.parse(0);
        retarget(Program.STORE, Program.PUT_INDEX, Program.PUT_ATTRIBUTE);
        lexer.goTo(behind);
      } else if (changeOf(lexer.token) == Program.HALT) {
        program.put(Program.POP);
      } else {
        int op = changeOf(lexer.token);
        int target = expressions.target;
        int name = nameOfTarget();
        retarget(Program.LOAD, Program.PEEK_INDEX, Program.PEEK_ATTRIBUTE);
        lexer.read();
        expressions.parse(0);
        program.put(op);
        if (target == Expressions.NAME_TARGET) bindTo(name);
        else if (target == Expressions.INDEX_TARGET) program.put(Program.POKE_INDEX);
        else program.put(Program.POKE_ATTRIBUTE, name);
      }
    }

    private static int changeOf(int token) {
      switch (token) {
        case Lexer.ADD_ASSIGN: return Program.ADD;
        case Lexer.SUBTRACT_ASSIGN: return Program.SUBTRACT;
        case Lexer.MULTIPLY_ASSIGN: return Program.MULTIPLY;
        default: return Program.HALT;
      }
    }

    private int nameOfTarget() {
      return program.at(expressions.targetPlace + (expressions.target == Expressions.NAME_TARGET ? 2 : 1));
    }

    /** Makes of the code that finds a target's value one that does something else with it. */
    private void retarget(int ofName, int ofIndex, int ofAttribute) {
      int place = expressions.targetPlace;
      switch (expressions.target) {
        case Expressions.NAME_TARGET:
          program.patch(place, ofName);
          scopes.bound(nameOfTarget());
          break;
        case Expressions.INDEX_TARGET: program.patch(place, ofIndex); break;
        case Expressions.ATTRIBUTE_TARGET: program.patch(place, ofAttribute); break;
        default: lexer.fail();
      }
    }

    private void deletion() {
      lexer.pass(Lexer.DEL);
      expressions.parse(0);
      retarget(Program.UNBIND, Program.DELETE_INDEX, Program.DELETE_ATTRIBUTE);
    }

    private void giving() {
      if (!scopes.inFunction()) lexer.fail();
      lexer.pass(Lexer.RETURN);
      if (lexer.token == Lexer.LINE_END) program.putConstant(NONE_HI, 0);
      else expressions.parse(0);
      program.put(Program.RETURN);
    }

    private void raising() {
      lexer.pass(Lexer.RAISE);
      expressions.parse(0);
      program.put(Program.RAISE);
    }

    private void leaving(boolean forGood) {
      if (loopBack == NO_PLACE) lexer.fail();
      lexer.read();
      if (tries > loopTries) program.put(Program.UNTRY, tries - loopTries);
      if (forGood) loopExits = program.put(Program.JUMP, loopExits);
      else program.put(Program.JUMP, loopBack);
    }

    private void globals() {
      if (!scopes.inFunction()) lexer.fail();
      boolean more = lexer.token != Lexer.BAD;
      for (int turn = 0; more && turn < TAPE_MOST; turn++) {
        lexer.read();
        int name = takeName();
        if (lexer.token != Lexer.BAD && !scopes.global(name)) lexer.fail();
        more = lexer.token == Lexer.COMMA;
      }
    }

    private void branches(int depth) {
      int indent = lexer.indent;
      int exits = NO_PLACE;
      boolean more = true;
      for (int turn = 0; more && turn < TAPE_MOST; turn++) {
        lexer.read();
        expressions.parse(0);
        int miss = program.put(Program.JUMP_FALSE, 0);
        block(indent, depth + 1);
        more = inside(indent) && lexer.token == Lexer.ELIF;
        exits = program.put(Program.JUMP, exits);
        program.patch(miss + 1, program.top);
      }
      if (inside(indent) && lexer.token == Lexer.ELSE) {
        lexer.pass(Lexer.ELSE);
        block(indent, depth + 1);
      }
      comeHere(exits);
    }

    /** Patches a chain of jumps, each of which has the place of the one before as its operand. */
    private void comeHere(int latest) {
      int place = latest;
      for (int turn = 0; turn < TAPE_MOST && place >= 0; turn++) {
        int before = program.at(place + 1);
        program.patch(place + 1, program.top);
        place = before;
      }
    }

    private void whileLoop(int depth) {
      int indent = lexer.indent;
      int first = program.put(Program.JUMP, 0);
      int back = program.put(Program.BACK, lexer.line);
      program.patch(first + 1, program.top);
      lexer.pass(Lexer.WHILE);
      expressions.parse(0);
      int exit = program.put(Program.JUMP_FALSE, NO_PLACE);
      loopBlock(indent, depth, back, exit);
    }

    private void forLoop(int depth) {
      int indent = lexer.indent;
      int line = lexer.line;
      lexer.pass(Lexer.FOR);
      int name = takeName();
      lexer.pass(Lexer.IN);
      expressions.parse(0);
      program.put(Program.FOR_BEGIN);
      int first = program.put(Program.JUMP, 0);
      int back = program.put(Program.BACK, line);
      program.patch(first + 1, program.top);
      int exit = program.put(Program.FOR_NEXT, NO_PLACE);
      bindTo(name);
      loopBlock(indent, depth, back, exit);
      program.put(Program.FOR_END);
    }

    private void loopBlock(int indent, int depth, int back, int exit) {
      int outerBack = loopBack;
      int outerExits = loopExits;
      int outerTries = loopTries;
      loopBack = back;
      loopExits = exit;
      loopTries = tries;
      block(indent, depth + 1);
      program.put(Program.JUMP, back);
      comeHere(loopExits);
      loopBack = outerBack;
      loopExits = outerExits;
      loopTries = outerTries;
    }

    private void attempt(int depth) {
      int indent = lexer.indent;
      lexer.pass(Lexer.TRY);
      int start = program.put(Program.TRY, 0);
      tries++;
      block(indent, depth + 1);
      tries--;
      program.put(Program.UNTRY, 1);
      int exit = program.put(Program.JUMP, 0);
      program.patch(start + 1, program.top);
      if (!inside(indent)) lexer.fail();
      lexer.pass(Lexer.EXCEPT);
      if (lexer.token == Lexer.NAME) bindTo(takeName());
      else program.put(Program.POP);
      block(indent, depth + 1);
      program.patch(exit + 1, program.top);
    }

    /** A def up to the making of its function; gives its name. */
    private int function(int depth) {
      int indent = lexer.indent;
      lexer.pass(Lexer.DEF);
      int name = takeName();
      int over = program.put(Program.JUMP, 0);
      int number = program.addFunction(name);
      int around = scopes.enter(number);
      parameters(number);
      int outerBack = loopBack;
      int outerTries = tries;
      loopBack = NO_PLACE;
      tries = 0;
      block(indent, depth + 1);
      program.putConstant(NONE_HI, 0);
      program.put(Program.RETURN);
      loopBack = outerBack;
      tries = outerTries;
      scopes.leave(around);
      program.patch(over + 1, program.top);
      program.put(Program.FUNCTION, number);
      return name;
    }

    private void parameters(int number) {
      lexer.pass(Lexer.OPEN);
      boolean more = lexer.token != Lexer.CLOSE;
      int found = 0;
      while (more && found <= PARAMETERS_MOST) {
        int name = takeName();
        if (lexer.token != Lexer.BAD && !scopes.parameter(name)) lexer.fail();
        program.addParameter(number);
        found++;
        more = lexer.token == Lexer.COMMA;
        if (more) lexer.pass(Lexer.COMMA);
      }
      if (found > PARAMETERS_MOST) lexer.fail();
      lexer.pass(Lexer.CLOSE);
    }

    private void classOf(int depth) {
      int indent = lexer.indent;
      int line = lexer.line;
      lexer.pass(Lexer.CLASS);
      int name = takeName();
      boolean based = lexer.token == Lexer.OPEN;
      int base = name;
      if (based) {
        lexer.pass(Lexer.OPEN);
        base = takeName();
        lexer.pass(Lexer.CLOSE);
      }
      int first = attributesTop;
      if (opens(indent, depth + 1)) classBlock(lexer.indent, depth + 1, first);
      program.put(Program.LINE, line);
      if (based) scopes.put(Program.LOAD, base);
      program.put(Program.CLASS, name, based ? 1 : 0);
      program.put(attributesTop - first);
      for (int i = first; i < attributesTop && i < attributes.length; i++) program.put(attributes[i]);
      attributesTop = first;
      bindTo(name);
    }

    private void classBlock(int indent, int depth, int first) {
      for (int turn = 0; turn <= TAPE_MOST && inside(indent); turn++) {
        program.put(Program.STATEMENT, lexer.line);
        if (lexer.token == Lexer.DEF) {
          give(function(depth), first);
        } else if (lexer.token == Lexer.PASS) {
          lexer.pass(Lexer.PASS);
          lexer.nextLine();
        } else {
          int name = takeName();
          lexer.pass(Lexer.ASSIGN);
          expressions.parse(0);
          give(name, first);
          lexer.nextLine();
        }
      }
      if (lexer.indent > indent) lexer.fail();
    }

    /** The value that was found becomes an attribute: it stays where it is, in its name's place. */
    private void give(int name, int first) {
      for (int i = first; i < attributesTop && i < attributes.length; i++) {
        if (attributes[i] == name) {
          program.put(Program.REPLACE, attributesTop - i);
          return;
        }
      }
      if (attributesTop - first >= ATTRIBUTES_MOST || attributesTop >= attributes.length) {
        program.put(Program.FAIL, NO_ROOM);
        return;
      }
      attributes[attributesTop] = name;
      attributesTop++;
    }
  }

  /** The objects, by number from 1, with what they hold and how often they are held. */
  private static final class Heap {
    private static final int LIST = 1;
    private static final int DICT = 2;
    private static final int FUNCTION = 3;
    private static final int CLASS = 4;
    private static final int INSTANCE = 5;
    private static final int METHOD = 6;
    private static final int FRAME = 7;
    private static final int MOST = 1500;
    private static final int ITEMS_MOST = 300;
    private static final int KEYS_MOST = 100;
    private static final int ATTRIBUTES_MOST = 40;
    private static final int ROW_MOST = 2 * ITEMS_MOST;
    // What is done with each object that one holds.
    private static final int LOOSEN = 0;
    private static final int REACH = 1;
    private static final int FORSAKE = 2;

    private final int[] kinds;
    // Holds by other objects, by global names, and by calls and values that are still needed.
    private final int[] held;
    private final int[] named;
    private final int[] kept;
    // A function's frame, a frame's one around, a class's base, an instance's class, a method's
    // function; and a method's instance.
    private final int[] firstLinks;
    private final int[] secondLinks;
    // The number of a function's code, of a class's name.
    private final int[] infos;
    private final int[] sizes;
    // A value of a list or frame takes two places of its row; one with a key or name takes four.
    private final long[][] rows;
    private final int[] counts;
    private final int[] spare;
    private final int[] waiting;
    private final boolean[] reached;
    private int alive;
    private int spares;
    private int fresh;
    private int waitingTop;

    private Heap() {
      kinds = new int[MOST + 1];
      held = new int[MOST + 1];
      named = new int[MOST + 1];
      kept = new int[MOST + 1];
      firstLinks = new int[MOST + 1];
      secondLinks = new int[MOST + 1];
      infos = new int[MOST + 1];
      sizes = new int[MOST + 1];
      rows = new long[MOST + 1][];
      counts = new int[FRAME + 1];
      spare = new int[MOST + 1];
      waiting = new int[MOST + 1];
      reached = new boolean[MOST + 1];
    }

    private static boolean isId(int id) {
      return id >= 1 && id <= MOST;
    }

    private int alive() {
      return alive;
    }

    private int countOf(int kind) {
      return kind >= LIST && kind <= FRAME ? counts[kind] : 0;
    }

    /** A new object that nothing holds yet; 0 if there is no room. */
    private int create(int kind) {
      if (alive >= MOST || kind < LIST || kind > FRAME) return 0;
      int id = fresh + 1;
      if (spares > 0 && spares <= MOST) {
        spares--;
        id = spare[spares];
      } else {
        fresh++;
      }
      if (!isId(id)) return 0;
      kinds[id] = kind;
      firstLinks[id] = 0;
      secondLinks[id] = 0;
      infos[id] = 0;
      sizes[id] = 0;
      alive++;
      counts[kind]++;
      return id;
    }

    private void remove(int id) {
      if (!isId(id) || kinds[id] < LIST || kinds[id] > FRAME || spares < 0 || spares > MOST) return;
      counts[kinds[id]]--;
      kinds[id] = 0;
      held[id] = 0;
      sizes[id] = 0;
      alive--;
      spare[spares] = id;
      spares++;
    }

    private int kindAt(int id) {
      return isId(id) ? kinds[id] : 0;
    }

    private int sizeAt(int id) {
      return isId(id) ? sizes[id] : 0;
    }

    private int firstAt(int id) {
      return isId(id) ? firstLinks[id] : 0;
    }

    private int secondAt(int id) {
      return isId(id) ? secondLinks[id] : 0;
    }

    private int infoAt(int id) {
      return isId(id) ? infos[id] : 0;
    }

    /** Tells a new object what it is besides its values. */
    private void link(int id, int info, int first, int second) {
      if (!isId(id)) return;
      infos[id] = info;
      firstLinks[id] = first;
      secondLinks[id] = second;
      hold(held, first);
      hold(held, second);
    }

    /** One more hold of a kind: held, named or kept. */
    private void hold(int[] holds, int id) {
      if (id >= 1 && id < holds.length) holds[id]++;
    }

    /** One hold less; if it was the last, the object goes, and what nothing holds but it. */
    private void release(int[] holds, int id) {
      if (!isId(id) || id >= holds.length) return;
      holds[id]--;
      if (held[id] + named[id] + kept[id] > 0) return;
      waiting[0] = id;
      waitingTop = 1;
      for (int turn = 0; turn <= MOST && waitingTop > 0 && waitingTop <= MOST; turn++) {
        waitingTop--;
        int gone = waiting[waitingTop];
        visit(gone, LOOSEN);
        remove(gone);
      }
    }

    /** One hold less of what something else holds too. */
    private void unkeep(int id) {
      if (isId(id)) kept[id]--;
    }

    private int holdsOf(int id) {
      return isId(id) ? held[id] + named[id] : 0;
    }

    /** What can not be reached goes: how many. */
    private int collect() {
      waitingTop = 0;
      for (int id = 1; id <= fresh && id <= MOST; id++) {
        reached[id] = false;
        if (kinds[id] != 0 && named[id] + kept[id] > 0) touch(id, REACH);
      }
      for (int turn = 0; turn <= MOST && waitingTop > 0 && waitingTop <= MOST; turn++) {
        waitingTop--;
        visit(waiting[waitingTop], REACH);
      }
      int before = alive;
      for (int id = 1; id <= fresh && id <= MOST; id++) {
        if (kinds[id] != 0 && !reached[id]) visit(id, FORSAKE);
      }
      for (int id = 1; id <= fresh && id <= MOST; id++) {
        if (kinds[id] != 0 && !reached[id]) remove(id);
      }
      return before - alive;
    }

    /** Does a deed with every object that one holds, as often as it holds it. */
    private void visit(int id, int deed) {
      if (!isId(id)) return;
      touch(firstLinks[id], deed);
      touch(secondLinks[id], deed);
      int width = widthOf(kinds[id]);
      long[] row = rows[id];
      int size = row == null || width == 0 ? 0 : sizes[id];
      for (int i = 1; i <= size && i * width <= row.length; i++) {
        touch(objectOf(row[i * width - 2], row[i * width - 1]), deed);
      }
    }

    private void touch(int id, int deed) {
      if (id < 1 || id > MOST) return;
      boolean waits = false;
      if (deed == REACH) {
        waits = !reached[id];
        reached[id] = true;
      } else {
        held[id]--;
        waits = deed == LOOSEN && kinds[id] != 0 && held[id] + named[id] + kept[id] <= 0;
      }
      if (waits && waitingTop >= 0 && waitingTop <= MOST) {
        waiting[waitingTop] = id;
        waitingTop++;
      }
    }

    private static int widthOf(int kind) {
      if (kind == LIST || kind == FRAME) return 2;
      return kind == DICT || kind == CLASS || kind == INSTANCE ? 4 : 0;
    }

    private static int mostOf(int kind) {
      if (kind == LIST || kind == FRAME) return ITEMS_MOST;
      return kind == DICT ? KEYS_MOST : ATTRIBUTES_MOST;
    }

    /** Where a value stands in its row; -1 if there is none. */
    private int placeOf(int id, int entry) {
      if (!isId(id) || rows[id] == null || entry < 0 || entry >= sizes[id]) return -1;
      int width = widthOf(kinds[id]);
      int place = entry * width + width - 2;
      return place >= 0 && place + 1 < rows[id].length ? place : -1;
    }

    private long hiOf(int id, int entry) {
      int place = placeOf(id, entry);
      return place < 0 ? UNBOUND_HI : rows[id][place];
    }

    private long loOf(int id, int entry) {
      int place = placeOf(id, entry);
      return place < 0 ? 0 : rows[id][place + 1];
    }

    private long keyHi(int id, int entry) {
      int place = placeOf(id, entry);
      return place < 2 ? UNBOUND_HI : rows[id][place - 2];
    }

    private long keyLo(int id, int entry) {
      int place = placeOf(id, entry);
      return place < 2 ? 0 : rows[id][place - 1];
    }

    private void set(int id, int entry, long hi, long lo) {
      int place = placeOf(id, entry);
      if (place < 0) return;
      int old = objectOf(rows[id][place], rows[id][place + 1]);
      hold(held, objectOf(hi, lo));
      rows[id][place] = hi;
      rows[id][place + 1] = lo;
      release(held, old);
    }

    /** Binds what was not bound before. */
    private void fill(int id, int entry, long hi, long lo) {
      int place = placeOf(id, entry);
      if (place < 0) return;
      hold(held, objectOf(hi, lo));
      rows[id][place] = hi;
      rows[id][place + 1] = lo;
    }

    /** The entry with this key or name; -1 if there is none. */
    private int find(int id, long hi, long lo) {
      if (!isId(id) || rows[id] == null || widthOf(kinds[id]) != 4) return -1;
      long[] row = rows[id];
      for (int i = 0; i < sizes[id] && 4 * i + 3 < row.length; i++) {
        if (row[4 * i] == hi && row[4 * i + 1] == lo) return i;
      }
      return -1;
    }

    /** The first of a class and its bases that has an attribute; 0 if none has. */
    private int holderOf(int id, long hi, long lo) {
      int holder = id;
      for (int turn = 0; turn <= MOST && holder != 0; turn++) {
        if (find(holder, hi, lo) >= 0) return holder;
        holder = firstAt(holder);
      }
      return 0;
    }

    /** Puts a value last, with its key or name if there is one; whether there was room. */
    private boolean append(int id, long keyHi, long keyLo, long hi, long lo) {
      if (!isId(id) || sizes[id] >= mostOf(kinds[id])) return false;
      int width = widthOf(kinds[id]);
      int place = sizes[id] * width;
      growRow(id, place + width);
      if (width < 2 || rows[id] == null || place + width > rows[id].length) return false;
      if (width == 4) {
        rows[id][place] = keyHi;
        rows[id][place + 1] = keyLo;
      }
      rows[id][place + width - 2] = hi;
      rows[id][place + width - 1] = lo;
      sizes[id]++;
      hold(held, objectOf(hi, lo));
      return true;
    }

    /** Rows stay with their numbers and grow in few steps, so that few are ever made. */
    private void growRow(int id, int need) {
      if (!isId(id) || need > ROW_MOST) return;
      int length = rows[id] == null ? 0 : rows[id].length;
      if (need <= length) return;
      int longer = need <= 16 ? 16 : need <= 64 ? 64 : need <= 240 ? 240 : ROW_MOST;
      rows[id] = length == 0 ? new long[longer] : Arrays.copyOf(rows[id], longer);
    }

    private void appendAll(int id, int from) {
      int size = sizeAt(from);
      for (int i = 0; i < size; i++) append(id, UNBOUND_HI, 0, hiOf(from, i), loOf(from, i));
    }

    /** Gives a frame its names, none of them bound. */
    private void openFrame(int id, int locals) {
      if (!isId(id) || locals < 0 || locals > ITEMS_MOST) return;
      growRow(id, 2 * locals);
      if (rows[id] == null || rows[id].length < 2 * locals) return;
      Arrays.fill(rows[id], 0, 2 * locals, UNBOUND_HI);
      sizes[id] = locals;
    }

    private void delete(int id, int entry) {
      int place = placeOf(id, entry);
      if (place < 0) return;
      int old = objectOf(rows[id][place], rows[id][place + 1]);
      int width = widthOf(kinds[id]);
      int from = (entry + 1) * width;
      int behind = sizes[id] * width - from;
      if (behind > 0 && from >= width && from + behind <= rows[id].length) {
        System.arraycopy(rows[id], from, rows[id], from - width, behind);
      }
      sizes[id]--;
      release(held, old);
    }
  }

  /** The values that were found and are still needed. */
  private static final class Stack {
    // A call needs no more than 630 places: 13 deep a list of 40 and the left sides of three
    // signs, the lists of ten loops, the attributes of a class; and 31 calls lie in one another.
    private static final int MOST = 20480;

    private final Heap heap;
    private final long[] his;
    private final long[] los;
    private int top;

    private Stack(Heap heap) {
      this.heap = heap;
      his = new long[MOST];
      los = new long[MOST];
    }

    private boolean has(int below) {
      return below >= 0 && below < top && top <= MOST;
    }

    private long hi(int below) {
      return has(below) ? his[top - 1 - below] : UNBOUND_HI;
    }

    private long lo(int below) {
      return has(below) ? los[top - 1 - below] : 0;
    }

    private int object(int below) {
      return objectOf(hi(below), lo(below));
    }

    /** The object that a value is, if it is of this kind; else 0. */
    private int object(int below, int kind) {
      int id = object(below);
      return heap.kindAt(id) == kind ? id : 0;
    }

    private void setLo(int below, long lo) {
      if (has(below)) los[top - 1 - below] = lo;
    }

    private void push(long hi, long lo) {
      if (top < 0 || top >= MOST) return;
      his[top] = hi;
      los[top] = lo;
      top++;
      heap.hold(heap.kept, objectOf(hi, lo));
    }

    private void pop(int values) {
      for (int i = 0; i < values && top > 0 && top <= MOST; i++) {
        top--;
        heap.release(heap.kept, objectOf(his[top], los[top]));
      }
    }

    /** Forgets values that an object holds by now, so that none of them can go. */
    private void handOver(int values) {
      for (int i = 0; i < values && top > 0 && top <= MOST; i++) {
        top--;
        heap.unkeep(objectOf(his[top], los[top]));
      }
    }

    /** Puts a value in the place of those that it came from; 0, as it is no error. */
    private int give(int taken, long hi, long lo) {
      heap.hold(heap.kept, objectOf(hi, lo));
      for (int i = 0; i < taken && top > 0 && top <= MOST; i++) {
        top--;
        heap.release(heap.kept, objectOf(his[top], los[top]));
      }
      if (top < 0 || top >= MOST) return NO_ROOM;
      his[top] = hi;
      los[top] = lo;
      top++;
      return 0;
    }

    /** Moves the topmost value to a place below, whose value goes. */
    private void replace(int below) {
      if (!has(below) || below == 0) return;
      int place = top - 1 - below;
      int old = objectOf(his[place], los[place]);
      top--;
      his[place] = his[top];
      los[place] = los[top];
      heap.release(heap.kept, old);
    }

    private boolean isTrue(int below) {
      long hi = hi(below);
      switch (kindOf(hi)) {
        case NONE: return false;
        case INT: return lo(below) != 0;
        case STRING: return lengthOf(hi) > 0;
        default: break;
      }
      int id = object(below);
      int kind = heap.kindAt(id);
      return kind != Heap.LIST && kind != Heap.DICT || heap.sizeAt(id) > 0;
    }
  }

  /** What signs, brackets and dots do with the topmost values; each gives its error, or 0. */
  private static final class Operations {
    private final Heap heap;
    private final Stack stack;
    private final Names names;

    private Operations(Heap heap, Stack stack, Names names) {
      this.heap = heap;
      this.stack = stack;
      this.names = names;
    }

    private int act(int op) {
      switch (op) {
        case Program.NOT: return stack.give(1, INT_HI, stack.isTrue(0) ? 0 : 1);
        case Program.NEGATE: return negate();
        case Program.ADD: return areBoth(STRING) ? joinStrings() : areBoth(OBJECT) ? joinLists() : add();
        case Program.SUBTRACT: return subtract();
        case Program.MULTIPLY: return multiply();
        case Program.DIVIDE: return divide();
        case Program.REMAINDER: return remainder();
        case Program.EQUAL: return stack.give(2, INT_HI, areEqual() ? 1 : 0);
        case Program.UNEQUAL: return stack.give(2, INT_HI, areEqual() ? 0 : 1);
        case Program.IN: return isIn();
        case Program.INDEX: return kindOf(stack.hi(1)) == STRING ? indexString(2) : index(2);
        case Program.PEEK_INDEX: return kindOf(stack.hi(1)) == STRING ? indexString(0) : index(0);
        case Program.PUT_INDEX: return putIndex(1, 0, 2);
        case Program.POKE_INDEX: return putIndex(2, 1, 0);
        case Program.DELETE_INDEX: return deleteIndex();
        default: return compare(op);
      }
    }

    private int act(int op, int operand) {
      switch (op) {
        case Program.ATTRIBUTE: return attribute(operand, 1);
        case Program.PEEK_ATTRIBUTE: return attribute(operand, 0);
        case Program.PUT_ATTRIBUTE: return putAttribute(operand, 0, 1);
        case Program.POKE_ATTRIBUTE: return putAttribute(operand, 1, 0);
        case Program.DELETE_ATTRIBUTE: return deleteAttribute(operand);
        case Program.LIST: return makeList(operand);
        case Program.DICT: return makeDict(operand);
        default: return 0;
      }
    }

    private boolean areBoth(int kind) {
      return kindOf(stack.hi(0)) == kind && kindOf(stack.hi(1)) == kind;
    }

    private boolean areEqual() {
      return stack.hi(0) == stack.hi(1) && stack.lo(0) == stack.lo(1);
    }

    private int negate() {
      long a = stack.lo(0);
      if (kindOf(stack.hi(0)) != INT) return BAD_TYPE;
      return a == INT_LOWEST ? OVERFLOW : stack.give(1, INT_HI, -a);
    }

    private int add() {
      if (!areBoth(INT)) return BAD_TYPE;
      long a = stack.lo(1);
      long b = stack.lo(0);
      long result = a + b;
      boolean lost = ((a ^ result) & (b ^ result)) < 0;
      return lost ? OVERFLOW : stack.give(2, INT_HI, result);
    }

    private int joinStrings() {
      long hi = stack.hi(1);
      long lo = stack.lo(1);
      int behind = lengthOf(stack.hi(0));
      if (lengthOf(hi) + behind > STRING_MOST) return NO_ROOM;
      for (int i = 0; i < behind; i++) {
        int b = byteOf(stack.hi(0), stack.lo(0), i);
        lo = appendedLo(hi, lo, b);
        hi = appendedHi(hi, b);
      }
      return stack.give(2, hi, lo);
    }

    private int joinLists() {
      int a = stack.object(1, Heap.LIST);
      int b = stack.object(0, Heap.LIST);
      if (a == 0 || b == 0) return BAD_TYPE;
      if (heap.sizeAt(a) + heap.sizeAt(b) > Heap.ITEMS_MOST) return NO_ROOM;
      int id = heap.create(Heap.LIST);
      if (id == 0) return NO_ROOM;
      heap.appendAll(id, a);
      heap.appendAll(id, b);
      return stack.give(2, OBJECT_HI, id);
    }

    private int subtract() {
      if (!areBoth(INT)) return BAD_TYPE;
      long a = stack.lo(1);
      long b = stack.lo(0);
      long result = a - b;
      boolean lost = ((a ^ b) & (a ^ result)) < 0;
      return lost ? OVERFLOW : stack.give(2, INT_HI, result);
    }

    private int multiply() {
      if (!areBoth(INT)) return BAD_TYPE;
      long a = stack.lo(1);
      long b = stack.lo(0);
      long result = a * b;
      boolean lost = a == -1 ? b == INT_LOWEST : a != 0 && result / a != b;
      return lost ? OVERFLOW : stack.give(2, INT_HI, result);
    }

    private int divide() {
      if (!areBoth(INT)) return BAD_TYPE;
      long a = stack.lo(1);
      long b = stack.lo(0);
      if (b == 0) return BY_ZERO;
      if (a == INT_LOWEST && b == -1) return OVERFLOW;
      return stack.give(2, INT_HI, Math.floorDiv(a, b));
    }

    private int remainder() {
      if (!areBoth(INT)) return BAD_TYPE;
      long b = stack.lo(0);
      if (b == 0) return BY_ZERO;
      return stack.give(2, INT_HI, Math.floorMod(stack.lo(1), b));
    }

    private int compare(int op) {
      int order = 0;
      if (areBoth(INT)) order = Long.compare(stack.lo(1), stack.lo(0));
      else if (areBoth(STRING)) order = compareStrings();
      else return BAD_TYPE;
      boolean truth = false;
      switch (op) {
        case Program.LESS: truth = order < 0; break;
        case Program.AT_MOST: truth = order <= 0; break;
        case Program.MORE: truth = order > 0; break;
        default: truth = order >= 0;
      }
      return stack.give(2, INT_HI, truth ? 1 : 0);
    }

    /** The bytes stand highest first, with zeros behind them, which are below all bytes. */
    private int compareStrings() {
      long bytes = (1L << 56) - 1;
      int order = Long.compare(stack.hi(1) & bytes, stack.hi(0) & bytes);
      return order != 0 ? order : Long.compare(stack.lo(1), stack.lo(0));
    }

    private int isIn() {
      int id = stack.object(0);
      long hi = stack.hi(1);
      long lo = stack.lo(1);
      boolean found = false;
      if (heap.kindAt(id) == Heap.DICT) {
        if (!isKey(hi)) return BAD_TYPE;
        found = heap.find(id, hi, lo) >= 0;
      } else if (heap.kindAt(id) == Heap.LIST) {
        int size = heap.sizeAt(id);
        for (int i = 0; i < size && !found; i++) found = heap.hiOf(id, i) == hi && heap.loOf(id, i) == lo;
      } else {
        return BAD_TYPE;
      }
      return stack.give(2, INT_HI, found ? 1 : 0);
    }

    /** The entry of a list or dict; below 0 the error, with the other sign. */
    private int locate(int objectBelow, int keyBelow) {
      int id = stack.object(objectBelow);
      long hi = stack.hi(keyBelow);
      long lo = stack.lo(keyBelow);
      if (heap.kindAt(id) == Heap.LIST) {
        return kindOf(hi) == INT ? entryAt(lo, heap.sizeAt(id)) : -BAD_TYPE;
      }
      if (heap.kindAt(id) != Heap.DICT || !isKey(hi)) return -BAD_TYPE;
      int entry = heap.find(id, hi, lo);
      return entry < 0 ? -NO_KEY : entry;
    }

    private static int entryAt(long index, int size) {
      long entry = index < 0 ? index + size : index;
      return entry < 0 || entry >= size ? -BAD_INDEX : (int) entry;
    }

    private int index(int taken) {
      int entry = locate(1, 0);
      if (entry < 0) return -entry;
      int id = stack.object(1);
      return stack.give(taken, heap.hiOf(id, entry), heap.loOf(id, entry));
    }

    private int indexString(int taken) {
      long hi = stack.hi(1);
      if (kindOf(stack.hi(0)) != INT) return BAD_TYPE;
      int entry = entryAt(stack.lo(0), lengthOf(hi));
      if (entry < 0) return -entry;
      return stack.give(taken, appendedHi(STRING_HI, byteOf(hi, stack.lo(1), entry)), 0);
    }

    private int putIndex(int objectBelow, int keyBelow, int valueBelow) {
      int entry = locate(objectBelow, keyBelow);
      int id = stack.object(objectBelow);
      long hi = stack.hi(valueBelow);
      long lo = stack.lo(valueBelow);
      if (entry >= 0) {
        heap.set(id, entry, hi, lo);
      } else if (entry != -NO_KEY) {
        return -entry;
      } else if (!heap.append(id, stack.hi(keyBelow), stack.lo(keyBelow), hi, lo)) {
        return NO_ROOM;
      }
      stack.pop(3);
      return 0;
    }

    private int deleteIndex() {
      int entry = locate(1, 0);
      if (entry < 0) return -entry;
      heap.delete(stack.object(1), entry);
      stack.pop(2);
      return 0;
    }

    private int attribute(int name, int taken) {
      int id = stack.object(0);
      if (!hasAttributes(id)) return BAD_TYPE;
      long nameHi = names.nameHi(name);
      long nameLo = names.nameLo(name);
      boolean ofClass = heap.kindAt(id) == Heap.INSTANCE && heap.find(id, nameHi, nameLo) < 0;
      int holder = heap.holderOf(ofClass ? heap.firstAt(id) : id, nameHi, nameLo);
      if (holder == 0) return NO_ATTRIBUTE;
      int entry = heap.find(holder, nameHi, nameLo);
      long hi = heap.hiOf(holder, entry);
      long lo = heap.loOf(holder, entry);
      int function = objectOf(hi, lo);
      if (!ofClass || heap.kindAt(function) != Heap.FUNCTION) return stack.give(taken, hi, lo);
      int method = heap.create(Heap.METHOD);
      if (method == 0) return NO_ROOM;
      heap.link(method, 0, function, id);
      return stack.give(taken, OBJECT_HI, method);
    }

    private boolean hasAttributes(int id) {
      return heap.kindAt(id) == Heap.INSTANCE || heap.kindAt(id) == Heap.CLASS;
    }

    private int putAttribute(int name, int objectBelow, int valueBelow) {
      int id = stack.object(objectBelow);
      if (!hasAttributes(id)) return BAD_TYPE;
      long nameHi = names.nameHi(name);
      long nameLo = names.nameLo(name);
      long hi = stack.hi(valueBelow);
      long lo = stack.lo(valueBelow);
      int entry = heap.find(id, nameHi, nameLo);
      if (entry >= 0) heap.set(id, entry, hi, lo);
      else if (!heap.append(id, nameHi, nameLo, hi, lo)) return NO_ROOM;
      stack.pop(2);
      return 0;
    }

    private int deleteAttribute(int name) {
      int id = stack.object(0);
      if (!hasAttributes(id)) return BAD_TYPE;
      int entry = heap.find(id, names.nameHi(name), names.nameLo(name));
      if (entry < 0) return NO_ATTRIBUTE;
      heap.delete(id, entry);
      stack.pop(1);
      return 0;
    }

    private int makeList(int items) {
      int id = heap.create(Heap.LIST);
      if (id == 0) return NO_ROOM;
      for (int i = items - 1; i >= 0; i--) heap.append(id, UNBOUND_HI, 0, stack.hi(i), stack.lo(i));
      return stack.give(items, OBJECT_HI, id);
    }

    private int makeDict(int pairs) {
      for (int i = 0; i < pairs; i++) {
        if (!isKey(stack.hi(2 * i + 1))) return BAD_TYPE;
      }
      int id = heap.create(Heap.DICT);
      if (id == 0) return NO_ROOM;
      for (int i = pairs - 1; i >= 0; i--) {
        long keyHi = stack.hi(2 * i + 1);
        long keyLo = stack.lo(2 * i + 1);
        int entry = heap.find(id, keyHi, keyLo);
        if (entry >= 0) heap.set(id, entry, stack.hi(2 * i), stack.lo(2 * i));
        else heap.append(id, keyHi, keyLo, stack.hi(2 * i), stack.lo(2 * i));
      }
      return stack.give(2 * pairs, OBJECT_HI, id);
    }
  }

  /** The built-in names, and OUT; each call finds its values topmost and gives its error, or 0. */
  private static final class Builtins {
    private static final int PRINT = 1;
    private static final int LEN = 2;
    private static final int RANGE = 3;
    private static final int PUSH = 4;
    private static final int POP = 5;
    private static final int KEYS = 6;
    private static final int TEXT = 7;
    private static final int REFS = 8;
    private static final int ALIVE = 9;
    private static final int COLLECT = 10;
    private static final int OUT_MOST = 4000;
    private static final int DIGITS_MOST = 20;

    private final Heap heap;
    private final Stack stack;
    private final Names names;
    private final Program program;
    private final byte[] out;
    private final byte[] digits;
    private int outLength;
    // Where a print is that may yet turn out to be too long.
    private int outTrial;

    private Builtins(Heap heap, Stack stack, Names names, Program program) {
      this.heap = heap;
      this.stack = stack;
      this.names = names;
      this.program = program;
      out = new byte[OUT_MOST];
      digits = new byte[DIGITS_MOST];
    }

    private void clearOut() {
      outLength = 0;
    }

    private int outLength() {
      return outLength;
    }

    private int outByte(int i) {
      return i >= 0 && i < outLength && i < OUT_MOST ? out[i] & 255 : -1;
    }

    private int act(int number, int given) {
      if (number == PRINT) return print(given);
      if (number == RANGE) return given == 1 || given == 2 ? range(given) : BAD_TYPE;
      if (given != (number == PUSH ? 2 : number >= ALIVE ? 0 : 1)) return BAD_TYPE;
      switch (number) {
        case LEN: return len();
        case PUSH: return push();
        case POP: return pop();
        case KEYS: return keys();
        case TEXT: return text();
        case REFS: return refs();
        case ALIVE: return stack.give(1, INT_HI, heap.alive());
        case COLLECT: return stack.give(1, INT_HI, heap.collect());
        default: return BAD_TYPE;
      }
    }

    private int len() {
      if (kindOf(stack.hi(0)) == STRING) return stack.give(2, INT_HI, lengthOf(stack.hi(0)));
      int id = stack.object(0);
      if (heap.kindAt(id) != Heap.LIST && heap.kindAt(id) != Heap.DICT) return BAD_TYPE;
      return stack.give(2, INT_HI, heap.sizeAt(id));
    }

    private int range(int given) {
      if (kindOf(stack.hi(0)) != INT || given == 2 && kindOf(stack.hi(1)) != INT) return BAD_TYPE;
      long first = given == 2 ? stack.lo(1) : 0;
      long behind = stack.lo(0);
      long size = first < behind ? behind - first : 0;
      // The difference of two far ints wraps around to one below 0.
      if (size < 0 || size > Heap.ITEMS_MOST) return NO_ROOM;
      int id = heap.create(Heap.LIST);
      if (id == 0) return NO_ROOM;
      for (int i = 0; i < size; i++) heap.append(id, UNBOUND_HI, 0, INT_HI, first + i);
      return stack.give(given + 1, OBJECT_HI, id);
    }

    private int push() {
      int id = stack.object(1, Heap.LIST);
      if (id == 0) return BAD_TYPE;
      if (!heap.append(id, UNBOUND_HI, 0, stack.hi(0), stack.lo(0))) return NO_ROOM;
      return stack.give(3, NONE_HI, 0);
    }

    private int pop() {
      int id = stack.object(0, Heap.LIST);
      if (id == 0) return BAD_TYPE;
      int last = heap.sizeAt(id) - 1;
      if (last < 0) return BAD_INDEX;
      stack.push(heap.hiOf(id, last), heap.loOf(id, last));
      heap.delete(id, last);
      return stack.give(3, stack.hi(0), stack.lo(0));
    }

    private int keys() {
      int dict = stack.object(0, Heap.DICT);
      if (dict == 0) return BAD_TYPE;
      int id = heap.create(Heap.LIST);
      if (id == 0) return NO_ROOM;
      int size = heap.sizeAt(dict);
      for (int i = 0; i < size; i++) heap.append(id, UNBOUND_HI, 0, heap.keyHi(dict, i), heap.keyLo(dict, i));
      return stack.give(2, OBJECT_HI, id);
    }

    private int text() {
      if (kindOf(stack.hi(0)) == STRING) return stack.give(2, stack.hi(0), stack.lo(0));
      if (kindOf(stack.hi(0)) != INT) return BAD_TYPE;
      int from = findDigits(stack.lo(0));
      if (DIGITS_MOST - from > STRING_MOST) return NO_ROOM;
      long hi = STRING_HI;
      long lo = 0;
      for (int i = from; i >= 0 && i < DIGITS_MOST; i++) {
        lo = appendedLo(hi, lo, digits[i]);
        hi = appendedHi(hi, digits[i]);
      }
      return stack.give(2, hi, lo);
    }

    private int refs() {
      int id = stack.object(0);
      return id == 0 ? BAD_TYPE : stack.give(2, INT_HI, heap.holdsOf(id));
    }

    private int print(int given) {
      outTrial = outLength;
      for (int i = given - 1; i >= 0; i--) {
        int id = stack.object(i);
        if (heap.kindAt(id) == Heap.LIST || heap.kindAt(id) == Heap.DICT) writeItems(id);
        else if (kindOf(stack.hi(i)) == STRING) putString(stack.hi(i), stack.lo(i));
        else if (id != 0) writeTitled(id);
        else writePart(stack.hi(i), stack.lo(i));
        if (i > 0) put(' ');
      }
      put(10);
      if (outTrial > OUT_MOST) return NO_ROOM;
      outLength = outTrial;
      return stack.give(given + 1, NONE_HI, 0);
    }

    private void put(int b) {
      if (outTrial >= 0 && outTrial < OUT_MOST) out[outTrial] = (byte) b;
      outTrial++;
    }

    private void putWord(String word) {
      for (int i = 0; i < word.length(); i++) put(word.charAt(i));
    }

    private void putString(long hi, long lo) {
      int length = lengthOf(hi);
      for (int i = 0; i < length; i++) put(byteOf(hi, lo, i));
    }

    private void putInt(long value) {
      for (int i = findDigits(value); i >= 0 && i < DIGITS_MOST; i++) put(digits[i]);
    }

    /** Writes an int to the end of the digits; where it begins there. */
    private int findDigits(long value) {
      int from = DIGITS_MOST;
      long rest = value;
      do {
        from--;
        digits[from] = (byte) ('0' + Math.abs((int) (rest % 10)));
        rest /= 10;
      } while (rest != 0 && from > 1);
      if (value < 0) {
        from--;
        digits[from] = '-';
      }
      return from;
    }

    /** A value in a list or dict, or one that has the same text alone. */
    private void writePart(long hi, long lo) {
      switch (kindOf(hi)) {
        case INT: putInt(lo); break;
        case STRING:
          put('\'');
          putString(hi, lo);
          put('\'');
          break;
        case OBJECT:
          put('<');
          putWord(wordOf(heap.kindAt(objectOf(hi, lo))));
          put('>');
          break;
        default: putWord("None");
      }
    }

    private static String wordOf(int kind) {
      switch (kind) {
        case Heap.LIST: return "list";
        case Heap.DICT: return "dict";
        case Heap.FUNCTION: return "function";
        case Heap.CLASS: return "class";
        case Heap.INSTANCE: return "instance";
        default: return "method";
      }
    }

    /** A whole list or dict. */
    private void writeItems(int id) {
      boolean keyed = heap.kindAt(id) == Heap.DICT;
      int size = heap.sizeAt(id);
      put(keyed ? '{' : '[');
      for (int i = 0; i < size; i++) {
        if (i > 0) putWord(", ");
        if (keyed) {
          writePart(heap.keyHi(id, i), heap.keyLo(id, i));
          putWord(": ");
        }
        writePart(heap.hiOf(id, i), heap.loOf(id, i));
      }
      put(keyed ? '}' : ']');
    }

    /** A function, class, instance or method, with the name of its def or class. */
    private void writeTitled(int id) {
      int kind = heap.kindAt(id);
      int titled = kind == Heap.INSTANCE || kind == Heap.METHOD ? heap.firstAt(id) : id;
      int info = heap.infoAt(titled);
      int name = heap.kindAt(titled) == Heap.CLASS ? info : program.titleOf(info);
      put('<');
      putWord(wordOf(kind));
      put(' ');
      putString(names.nameHi(name), names.nameLo(name));
      put('>');
    }
  }

  /** Does a text: its flow, its calls and its errors. */
  private static final class Machine {
    private static final int CALLS_MOST = 30;
    // In a call ten blocks of try lie in one another.
    private static final int TRIES_MOST = 11 * (CALLS_MOST + 1);
    // Far above 20000 steps with the code of one line each.
    private static final int TURNS_MOST = 1000000000;

    private final Program program;
    private final Heap heap;
    private final Names names;
    private final Stack stack;
    private final Operations operations;
    private final Builtins builtins;
    // Of every call that is open: where it goes on, and what it goes back to.
    private final int[] callPlaces;
    private final int[] callLines;
    private final int[] callHeights;
    private final int[] callTries;
    private final int[] callFrames;
    private final int[] callMade;
    // Of every try that is open: the place of its except, the height of the stack, the calls.
    private final int[] openTries;
    private int calls;
    private int tries;
    private int frame;
    private int place;
    private int line;
    private int steps;
    private int fuel;

    private Machine(Program program, Heap heap, Names names, Stack stack, Builtins builtins) {
      this.program = program;
      this.heap = heap;
      this.names = names;
      this.stack = stack;
      this.builtins = builtins;
      operations = new Operations(heap, stack, names);
      callPlaces = new int[CALLS_MOST];
      callLines = new int[CALLS_MOST];
      callHeights = new int[CALLS_MOST];
      callTries = new int[CALLS_MOST];
      callFrames = new int[CALLS_MOST];
      callMade = new int[CALLS_MOST];
      openTries = new int[3 * TRIES_MOST];
    }

    private int stepsDone() {
      return steps;
    }

    private void forgetSteps() {
      steps = 0;
    }

    private int errorLine() {
      return line;
    }

    /** Does the code from a place on; 0, or the error that ended it. */
    private int perform(int start, int most) {
      place = start;
      fuel = most;
      tries = 0;
      frame = 0;
      int error = 0;
      boolean going = true;
      for (int turn = 0; going && turn < TURNS_MOST; turn++) {
        int op = operand();
        if (op <= Program.LAST_FLOW) error = flow(op);
        else if (op <= Program.LAST_NAMING) error = naming(op);
        else if (op <= Program.LAST_WITHOUT_OPERAND) error = operations.act(op);
        else if (op != Program.CALL) error = operations.act(op, operand());
        else error = callsBuiltIn() ? builtins.act(builtIn(), operand()) : call(operand());
        going = error == 0 ? op != Program.HALT : isCaught(error);
      }
      int errorLine = line;
      endCalls(0);
      stack.pop(stack.top);
      line = errorLine;
      return going ? NO_FUEL : error;
    }

    private int operand() {
      int word = program.at(place);
      place++;
      return word;
    }

    private boolean callsBuiltIn() {
      return kindOf(stack.hi(program.at(place))) == BUILT_IN;
    }

    private int builtIn() {
      return (int) stack.lo(program.at(place));
    }

    /** Goes to the except of the innermost try, if there is one. */
    private boolean isCaught(int error) {
      if (error == NO_FUEL || tries <= 0 || tries > TRIES_MOST) return false;
      tries--;
      place = openTries[3 * tries];
      endCalls(openTries[3 * tries + 2]);
      stack.pop(stack.top - openTries[3 * tries + 1]);
      stack.push(INT_HI, error);
      return true;
    }

    private void endCalls(int open) {
      for (int left = calls; left > open && left > 0; left--) endCall();
    }

    /** Lets go what the innermost call holds beside its values. */
    private void endCall() {
      calls--;
      if (calls < 0 || calls >= CALLS_MOST) return;
      int ended = frame;
      frame = callFrames[calls];
      line = callLines[calls];
      heap.release(heap.kept, ended);
      heap.release(heap.kept, callMade[calls]);
    }

    private int flow(int op) {
      switch (op) {
        case Program.STATEMENT: return step(operand());
        case Program.BACK: return step(operand());
        case Program.LINE: line = operand(); return 0;
        case Program.JUMP: place = operand(); return 0;
        case Program.JUMP_FALSE: return jumpIf(false, true);
        case Program.AND: return jumpIf(false, false);
        case Program.OR: return jumpIf(true, false);
        case Program.RETURN: return giveBack();
        case Program.FOR_BEGIN: return beginFor();
        case Program.FOR_NEXT: return nextItem(operand());
        case Program.FOR_END: stack.pop(2); return 0;
        case Program.TRY: return beginTry(operand());
        case Program.UNTRY: tries -= operand(); return 0;
        case Program.RAISE: return raised();
        case Program.FAIL: return operand();
        default: return 0;
      }
    }

    private int step(int at) {
      line = at;
      if (steps >= fuel) return NO_FUEL;
      steps++;
      return 0;
    }

    /** Jumps if the topmost value is so; it stays then, unless it is always taken. */
    private int jumpIf(boolean truth, boolean always) {
      int target = operand();
      boolean jumps = stack.isTrue(0) == truth;
      if (jumps) place = target;
      if (always || !jumps) stack.pop(1);
      return 0;
    }

    private int beginFor() {
      if (stack.object(0, Heap.LIST) == 0) return BAD_TYPE;
      stack.push(INT_HI, 0);
      return 0;
    }

    private int nextItem(int exit) {
      int list = stack.object(1, Heap.LIST);
      long at = stack.lo(0);
      if (at < 0 || at >= heap.sizeAt(list)) {
        place = exit;
        return 0;
      }
      stack.setLo(0, at + 1);
      stack.push(heap.hiOf(list, (int) at), heap.loOf(list, (int) at));
      return 0;
    }

    private int beginTry(int handler) {
      if (tries < 0 || tries >= TRIES_MOST) return NO_ROOM;
      openTries[3 * tries] = handler;
      openTries[3 * tries + 1] = stack.top;
      openTries[3 * tries + 2] = calls;
      tries++;
      return 0;
    }

    private int raised() {
      long number = stack.lo(0);
      boolean may = kindOf(stack.hi(0)) == INT && number >= 10 && number <= 99;
      return may ? (int) number : BAD_TYPE;
    }

    private int naming(int op) {
      switch (op) {
        case Program.CONSTANT: return constant(operand());
        case Program.POP: stack.pop(1); return 0;
        case Program.LOAD: return load() ? 0 : NO_NAME;
        case Program.STORE: return store();
        case Program.UNBIND: return unbind();
        case Program.CALLEE: return callee();
        case Program.FUNCTION: return makeFunction(operand());
        case Program.CLASS: return makeClass();
        case Program.REPLACE: stack.replace(operand()); return 0;
        default: return 0;
      }
    }

    private int constant(int number) {
      stack.push(program.constantHi(number), program.constantLo(number));
      return 0;
    }

    private int frameUp(int levels) {
      int found = frame;
      for (int i = 0; i < levels && found != 0; i++) found = heap.firstAt(found);
      return found;
    }

    /** Puts a name's value topmost, if it is bound. */
    private boolean load() {
      int up = operand();
      int index = operand();
      int from = frameUp(up);
      long hi = up < 0 ? names.hiOf(index) : heap.hiOf(from, index);
      long lo = up < 0 ? names.loOf(index) : heap.loOf(from, index);
      if (kindOf(hi) == UNBOUND) return false;
      stack.push(hi, lo);
      return true;
    }

    private int store() {
      int up = operand();
      int index = operand();
      if (up < 0) names.assign(index, stack.hi(0), stack.lo(0));
      else heap.set(frameUp(up), index, stack.hi(0), stack.lo(0));
      stack.pop(1);
      return 0;
    }

    private int unbind() {
      int up = operand();
      int index = operand();
      long hi = up < 0 ? names.hiOf(index) : heap.hiOf(frameUp(up), index);
      if (kindOf(hi) == UNBOUND) return NO_NAME;
      if (up < 0) names.assign(index, UNBOUND_HI, 0);
      else heap.set(frameUp(up), index, UNBOUND_HI, 0);
      return 0;
    }

    private int callee() {
      boolean bound = load();
      int builtIn = operand();
      if (bound) return 0;
      if (builtIn == 0) return NO_NAME;
      stack.push(BUILT_IN_HI, builtIn);
      return 0;
    }

    private int makeFunction(int number) {
      int id = heap.create(Heap.FUNCTION);
      if (id == 0) return NO_ROOM;
      heap.link(id, number, frame, 0);
      stack.push(OBJECT_HI, id);
      return 0;
    }

    private int makeClass() {
      int name = operand();
      int based = operand();
      int attributes = operand();
      int base = based == 1 ? stack.object(0, Heap.CLASS) : 0;
      if (based == 1 && base == 0) return BAD_TYPE;
      int id = heap.create(Heap.CLASS);
      if (id == 0) return NO_ROOM;
      heap.link(id, name, base, 0);
      for (int i = attributes - 1; i >= 0; i--) {
        int attribute = operand();
        int below = i + based;
        heap.append(id, names.nameHi(attribute), names.nameLo(attribute), stack.hi(below), stack.lo(below));
      }
      return stack.give(attributes + based, OBJECT_HI, id);
    }

    private int call(int given) {
      int id = stack.object(given);
      switch (heap.kindAt(id)) {
        case Heap.FUNCTION: return enter(id, given, 0, 0);
        case Heap.METHOD: return enter(heap.firstAt(id), given, heap.secondAt(id), 0);
        case Heap.CLASS: return makeInstance(id, given);
        default: return BAD_TYPE;
      }
    }

    private int makeInstance(int id, int given) {
      int made = heap.create(Heap.INSTANCE);
      if (made == 0) return NO_ROOM;
      heap.hold(heap.kept, made);
      heap.link(made, 0, id, 0);
      long hi = names.nameHi(Names.INIT);
      long lo = names.nameLo(Names.INIT);
      int holder = heap.holderOf(id, hi, lo);
      int entry = heap.find(holder, hi, lo);
      int init = objectOf(heap.hiOf(holder, entry), heap.loOf(holder, entry));
      int error = BAD_TYPE;
      if (heap.kindAt(init) == Heap.FUNCTION) {
        error = enter(init, given, made, made);
        if (error == 0) return 0;
      } else if (given == 0) {
        error = stack.give(1, OBJECT_HI, made);
      }
      heap.release(heap.kept, made);
      return error;
    }

    /** Begins a call: of a function, with an instance first or 0, for one that is made or 0. */
    private int enter(int function, int given, int self, int made) {
      int number = heap.infoAt(function);
      int first = self == 0 ? 0 : 1;
      if (given + first != program.parametersOf(number)) return BAD_TYPE;
      if (calls < 0 || calls >= CALLS_MOST) return TOO_DEEP;
      int locals = program.localsOf(number);
      int opened = locals > Heap.ITEMS_MOST ? 0 : heap.create(Heap.FRAME);
      if (opened == 0) return NO_ROOM;
      heap.hold(heap.kept, opened);
      heap.link(opened, 0, heap.firstAt(function), 0);
      heap.openFrame(opened, locals);
      if (self != 0) heap.fill(opened, 0, OBJECT_HI, self);
      for (int i = 0; i < given; i++) {
        heap.fill(opened, first + i, stack.hi(given - 1 - i), stack.lo(given - 1 - i));
      }
      stack.handOver(given);
      callPlaces[calls] = place;
      callLines[calls] = line;
      callHeights[calls] = stack.top - 1;
      callTries[calls] = tries;
      callFrames[calls] = frame;
      callMade[calls] = made;
      calls++;
      frame = opened;
      place = program.startOf(number);
      return 0;
    }

    /** Ends a call: its value takes the place of what was called. */
    private int giveBack() {
      int ended = calls - 1;
      if (ended < 0 || ended >= CALLS_MOST) return 0;
      int made = callMade[ended];
      long hi = made == 0 ? stack.hi(0) : OBJECT_HI;
      long lo = made == 0 ? stack.lo(0) : made;
      stack.give(stack.top - callHeights[ended], hi, lo);
      place = callPlaces[ended];
      tries = callTries[ended];
      endCall();
      return 0;
    }
  }
}
